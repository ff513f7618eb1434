/** Part 3 and promises 12 to 15: each sentence that names a boundary case, by itself. */
public final class WhoCanHangEdgesTest {
    private static final String NINE = "t;s1;w2;b3;s4;w5;b6;s7;w8;b9";

    public static void main(String[] args) {
        pitchesThreeToTwentySeven();
        theKthSetFrom0To83();
        notSoManySets();
        setsThatCantHangAreOfNoPitch();
        setsOfWhoeverHangs();
        mostFromMinus2To8();
        mostThreesThereCanBe();
        mostWhereNoneCan();
        mostThreesAheadOfMostRings();
        ofSeveralTheFirstRow();
        threesAreNumberedByTheLeastPerson();
        mostGoesByAllPeople();
        mostGoesByWhatIsNow();
        moreThanTheJoyOfEach();
        theLeastSetRather();
        ratherNone();
        oneNumberForEachThree();
        numbersFrom0To99();
        barsFrom0To999();
        notAheadOfItsFirstBar();
        neverTogether();
        numbersOfEachLane();
        nothingIsNoCastOfNumbers();
        Due.finish();
    }

    /** Promise 12: 'OF PITCH v (3 .. 27)': how many there are of each, and OUTSIDE at 2 and at 28. */
    private static void pitchesThreeToTwentySeven() {
        for (int side = 1; side <= 9; side++) {
            StruckThrees x = Due.townOf("t;s" + side + ";w" + side + ";b" + side);
            for (int v = 0; v <= 30; v++) {
                boolean taken = v >= 3 && v <= 27;
                Due.due("how many of " + v, x.pitched(v, -1), !taken ? -2 : v == 3 * side ? 1 : 0);
                Due.due("the first of " + v, x.pitched(v, 0), !taken ? -2 : v == 3 * side ? 7 : -9);
            }
        }
    }

    /** Promise 12: 'how many (k -1), the k-th of these sets (0 .. 83), rising': all the 84 sets of nine. */
    private static void theKthSetFrom0To83() {
        StruckThrees x = Due.townOf("t;s5;w5;b5;s5;w5;b5;s5;w5;b5");
        int k = 0;
        for (int set = 0; set < 512; set++) {
            if (Integer.bitCount(set) == 3) {
                Due.due("the " + k + "th of all", x.pitched(15, k), set);
                k++;
            }
        }
        Due.due("how many of all", x.pitched(15, -1), 84);
        Due.due("the last of all", x.pitched(15, 83), 448);
        Due.due("k 84", x.pitched(15, 84), -2);
        Due.due("k -2", x.pitched(15, -2), -2);
    }

    /** Promise 12: 'NONE: there are not so many.' */
    private static void notSoManySets() {
        for (int people = 3; people <= 9; people++) {
            StringBuilder text = new StringBuilder("t");
            for (int p = 0; p < people; p++) text.append(";s2");
            StruckThrees x = Due.townOf(text.toString());
            int many = people * (people - 1) * (people - 2) / 6;
            Due.due("how many of " + people, x.pitched(6, -1), many);
            Due.due("the last of " + people, x.pitched(6, many - 1), 7 << people - 3);
            Due.due("behind the last of " + people, x.pitched(6, many), people == 9 ? -2 : -9);
            Due.due("the first of another PITCH", x.pitched(7, 0), -9);
            Due.due("how many of another PITCH", x.pitched(7, -1), 0);
        }
    }

    /** 'all sets of three PEOPLE .. that can HANG and have that PITCH': 1 2 3 have 6, and can't. */
    private static void setsThatCantHangAreOfNoPitch() {
        StruckThrees x = Due.townOf(NINE);
        for (int v = 3; v <= 27; v++) {
            int many = 0, first = -9, last = -9;
            for (int set = 511; set >= 0; set--) {
                int sum = 0, greatest = 0;
                for (int p = 0; p < 9; p++) {
                    if ((set >> p & 1) == 1) {
                        sum += p + 1;
                        greatest = p + 1;
                    }
                }
                if (Integer.bitCount(set) == 3 && sum == v && sum - greatest > greatest) {
                    many++;
                    last = Math.max(last, set);
                    first = set;
                }
            }
            Due.due("how many of " + v, x.pitched(v, -1), many);
            Due.due("the first of " + v, x.pitched(v, 0), first);
            if (many > 0) Due.due("the last of " + v, x.pitched(v, many - 1), last);
            Due.due("behind the last of " + v, x.pitched(v, many), -9);
        }
    }

    /** '(whoever HANGS)'. */
    private static void setsOfWhoeverHangs() {
        StruckThrees x = Due.townOf("t;s5;s5;s5;s5;s5;s5");
        x.hang(0, 1, 2);
        x.hang(3, 4, 5);
        Due.due("how many while all HANG", x.pitched(15, -1), 20);
        Due.due("the first while it HANGS", x.pitched(15, 0), 7);
        Due.due("the last while it HANGS", x.pitched(15, 19), 56);
        Due.due("there is no other", x.pitched(15, 20), -9);
    }

    private static void most(String text, int made, int rings, int... row) {
        StruckThrees x = Due.townOf(text);
        Due.due("THREES of " + text, x.most(-2), made);
        Due.due("RINGS of " + text, x.most(-1), rings);
        for (int p = 0; p < 9; p++) Due.due("PERSON " + p + " of " + text, x.most(p), p < row.length && row[p] != 9 ? row[p] : -9);
    }

    /** Promise 13: '(k -2) .. (k -1) .. PERSON k (0 .. 8; NONE: it is in none, there is no such PERSON)'. */
    private static void mostFromMinus2To8() {
        String[] texts = {"t;s5;s5;s5", "t;s5;s5;s5;s5", "t;s5;s5;s5;s5;s5;s5;s5;s5;s5"};
        int[][] dues = {{1, 15, 0, 0, 0, -9, -9, -9, -9, -9, -9}, {1, 15, 0, 0, 0, -9, -9, -9, -9, -9, -9}, {3, 45, 0, 0, 0, 1, 1, 1, 2, 2, 2}};
        for (int t = 0; t < 3; t++) {
            // Asked for one alone on an object of its own, so that no other has made it known.
            for (int k = -4; k <= 11; k++) {
                StruckThrees x = Due.townOf(texts[t]);
                Due.due("most(" + k + ") of " + texts[t], x.most(k), k < -2 || k > 8 ? -2 : dues[t][k + 2]);
            }
        }
    }

    /** 'those with the most THREES': 1 of 3 to 5 PEOPLE, 2 of 6 to 8, 3 of 9. */
    private static void mostThreesThereCanBe() {
        StringBuilder text = new StringBuilder("t;s5;s5");
        for (int people = 3; people <= 9; people++) {
            text.append(";s5");
            StruckThrees x = Due.townOf(text.toString());
            Due.due("THREES of " + people, x.most(-2), people / 3);
            Due.due("RINGS of " + people, x.most(-1), people / 3 * 15);
            for (int p = 0; p < 9; p++) Due.due("PERSON " + p + " of " + people, x.most(p), p < people / 3 * 3 ? p / 3 : -9);
        }
    }

    /** 'THREES that can HANG': where none can, there are 0 with 0 RINGS, and each is in none. */
    private static void mostWhereNoneCan() {
        most("t;s1;s2;s3", 0, 0);
        most("t;s1;b2;s3;w5;s8", 0, 0);
        most("t;w1;w1;w1", 1, 0, 0, 0, 0);
        most("t;s1;s1;s2;s4;s8", 0, 0);
        most("t;s1;s1;s2;s4;s8;s1", 1, 3, 0, 0, 9, 9, 9, 0);
    }

    /** 'those with the most THREES; of these those with the most RINGS together'. */
    private static void mostThreesAheadOfMostRings() {
        // Fewer THREES never ring longer (NOTES.md); here one rings as long as two do.
        most("t;b9;b9;s9;w1;w1;w1", 2, 45, 0, 0, 0, 1, 1, 1);
        most("t;w1;w1;w1;b9;b9;s9;s3", 2, 45, 0, 0, 0, 1, 1, 1, 9);
        most("t;b5;w5;w4;b5;w5;w4", 2, 28, 0, 0, 0, 1, 1, 1);
        most("t;w5;s5;b5;b5", 1, 25, 9, 0, 0, 0);
        most("t;b9;b9;s2;s3;s4;s6", 2, 51, 0, 0, 0, 1, 1, 1);
    }

    /** 'of several the first as a row .. none is told as 9': who is in none comes behind who is in one. */
    private static void ofSeveralTheFirstRow() {
        most("t;s5;s5;s5;s5", 1, 15, 0, 0, 0, 9);
        most("t;s5;s5;s5;s5;s5", 1, 15, 0, 0, 0, 9, 9);
        most("t;s5;s5;s5;s5;s5;s5;s5;s5", 2, 30, 0, 0, 0, 1, 1, 1, 9, 9);
        // PERSON 0 can HANG with two of the 5s, but RINGS less than a third one.
        most("t;s1;s5;s5;s5;s5", 1, 15, 9, 0, 0, 0, 9);
        most("t;s5;s1;s5;s1;s5", 1, 15, 0, 9, 0, 9, 0);
        // 8 6 8 and 3 4 2 ring as 8 4 6 and 8 7 2 do, where PERSON 1 is in none.
        most("t;b8;s3;s4;b6;b8;w7;b2", 2, 55, 0, 1, 1, 0, 0, 9, 1);
        most("t;s5;b1;w4;s9;b3;w7;b3", 2, 31, 0, 1, 9, 0, 1, 0, 1);
    }

    /** 'THREES are numbered by the least PERSON in each'. */
    private static void threesAreNumberedByTheLeastPerson() {
        most("t;s1;s9;s1;s9;s1;s9", 2, 30, 0, 1, 0, 1, 0, 1);
        most("t;s9;s1;s1;s1;s9;s9", 2, 30, 0, 1, 1, 1, 0, 0);
        most("t;s1;s4;s9;s9;s4;s1;s1;s4;s9", 3, 42, 0, 1, 2, 2, 1, 0, 0, 1, 2);
    }

    /** 'of all ways to put PEOPLE into THREES': who HANGS now is as good as who does not. */
    private static void mostGoesByAllPeople() {
        StruckThrees x = Due.townOf("t;s5;s5;s5;s5;s5;s5;s5");
        x.hang(6, 5, 4);
        for (int p = 0; p < 9; p++) Due.due("PERSON " + p + " while some HANG", x.most(p), p < 6 ? p / 3 : -9);
        Due.due("THREES", x.most(-2), 2);
        x.hang(0, 1, 3);
        Due.due("RINGS", x.most(-1), 30);
        Due.due("what HANGS is as it was", x.ofThree(1, 0), 11);
    }

    /** The same, of SIDES that are bent and of another TOWN: fewer THREES, fewer RINGS, a row further on. */
    private static void mostGoesByWhatIsNow() {
        StruckThrees x = Due.townOf("t;s5;s5;s5;s5;s5;s5");
        Due.due("THREES at first", x.most(-2), 2);
        x.bend(0, 4);
        Due.due("fewer RINGS", x.most(-1), 29);
        x.bend(5, 1);
        x.bend(4, 9);
        Due.due("fewer THREES", x.most(-2), 1);
        // 5 5 and the 9 ring longest, and who is left can't HANG.
        Due.due("RINGS of them", x.most(-1), 19);
        int[] row = {-9, 0, 0, -9, 0, -9};
        for (int p = 0; p < 6; p++) Due.due("PERSON " + p, x.most(p), row[p]);
        Due.due("another TOWN", Due.settle(x, "t;s1;s2;s3"), 3);
        Due.due("no THREES", x.most(-2), 0);
        Due.due("no RINGS", x.most(-1), 0);
        for (int p = 0; p < 9; p++) Due.due("PERSON " + p + " of another TOWN", x.most(p), -9);
    }

    /** 'RATHER: three PEOPLE who can HANG, whose RINGS are more than the JOY of each of them': as much is not more. */
    private static void moreThanTheJoyOfEach() {
        for (int side = 1; side <= 9; side++) {
            StruckThrees x = Due.townOf("t;s5;s5;s5;s" + side);
            x.hang(0, 1, 2);
            Due.due("rather with " + side, x.rather(), side > 5 ? 11 : -9);
        }
        // 5 6 6 ring 17: more than the 15 of one, as much as or more than what another has.
        int[] joys = {16, 17, 18};
        for (int joy : joys) {
            StruckThrees x = Due.townOf("t;s5;s5;s5;s6;s6;s" + (joy - 12));
            x.hang(0, 1, 2);
            x.hang(3, 4, 5);
            Due.due("JOY of the other", x.ofPerson(3, 4), joy);
            Due.due("rather where it is " + joy, x.rather(), joy == 16 ? 25 : -9);
        }
    }

    /** 'of several the least set'. */
    private static void theLeastSetRather() {
        StruckThrees x = Due.townOf("t;s1;s1;s3;s3;s3;s9");
        Due.due("the least that can", x.rather(), 1 | 4 | 8);
        x.hang(0, 2, 3);
        Due.due("the least that is more", x.rather(), 4 | 8 | 16);
        x.leave(0);
        x.hang(2, 3, 4);
        Due.due("the least of who is left", x.rather(), -9);
        StruckThrees y = Due.townOf("t;s5;s5;s5;s5;s5;s5;s6;s6;s6");
        y.hang(0, 1, 2);
        y.hang(3, 4, 5);
        Due.due("the least of many", y.rather(), 1 | 2 | 64);
        y.hang(6, 7, 8);
        Due.due("none of many", y.rather(), -9);
    }

    /** 'NONE: there are none': where none can HANG, where all RINGS are 0, where each has as much. */
    private static void ratherNone() {
        Due.due("none can HANG", Due.townOf("t;s1;s2;s3;s9").rather(), -9);
        Due.due("RINGS of 0 are not more than 0", Due.townOf("t;w1;w1;w1").rather(), -9);
        Due.due("RINGS of 1 are", Due.townOf("t;w1;s1;w1").rather(), 7);
        StruckThrees x = Due.townOf("t;s5;s5;s5;s5;s5;s5");
        x.hang(0, 1, 2);
        Due.due("of who does not HANG", x.rather(), 56);
        x.hang(3, 4, 5);
        Due.due("all HANG", x.rather(), -9);
        x.leave(0);
        Due.due("when one is over", x.rather(), 7);
    }

    private static StruckThrees hung(String text, int threes) {
        StruckThrees x = Due.townOf(text);
        for (int t = 0; t < threes; t++) Due.due("hang", x.hang(3 * t, 3 * t + 1, 3 * t + 2), t);
        return x;
    }

    /** 'by a row of numbers, one for each THREE': so many cells must be there, and no other is looked at. */
    private static void oneNumberForEachThree() {
        for (int threes = 0; threes <= 3; threes++) {
            for (int length = 0; length <= 4; length++) {
                StruckThrees x = hung("t;s5;s5;s5;s5;s5;s5;s5;s5;s5", threes);
                x.sheet(1, 1, length);
                for (int i = -1; i <= length + 1; i++) {
                    boolean there = i >= 0 && i + threes <= length;
                    Due.due(threes + " from " + i + " on of " + length, x.together(1, 1, i), threes == 0 ? -3 : there ? 0 : -13);
                    Due.due("its fault", x.fault(), threes == 0 || there ? 0 : 3);
                }
                Due.due("from MAX on", x.together(1, 1, Integer.MAX_VALUE), threes == 0 ? -3 : -13);
                Due.due("from MIN on", x.together(1, 1, Integer.MIN_VALUE), threes == 0 ? -3 : -13);
            }
            StruckThrees x = hung("t;s5;s5;s5;s5;s5;s5;s5;s5;s5", threes);
            Due.row(x, 1, 2, -1, 0, 0, 0, 100);
            if (threes > 0) Due.due("not the one ahead", x.together(1, 2, 1), 0);
            if (threes > 0) Due.due("not the one behind", x.together(1, 2, 4 - threes), 0);
            if (threes > 0) Due.due("the one ahead", x.together(1, 2, 0), -2);
            if (threes > 0) Due.due("the one behind", x.together(1, 2, 5 - threes), -2);
        }
    }

    /** Promise 15: 'OUTSIDE: one is not 0 .. 99', whichever it is; the fault() is 0 then. */
    private static void numbersFrom0To99() {
        int[] numbers = {Integer.MIN_VALUE, -256, -1, 0, 99, 100, 256, 65536, Integer.MAX_VALUE};
        for (int v : numbers) {
            for (int at = 0; at < 3; at++) {
                StruckThrees x = hung("t;s1;s1;s1;s1;s1;s1;s1;s1;s1", 3);
                Due.row(x, 1, 2, 0, 0, 0);
                x.put(1, at, v);
                Due.due(v + " at " + at, x.together(1, 2, 0), v == 0 ? 0 : v == 99 ? 99 : -2);
                Due.due("its fault", x.fault(), 0);
            }
        }
    }

    /** 'the first BAR 0 .. 999 at which all are': PITCHES 25, 23 and 19, so that each BAR is met once in 10925. */
    private static void barsFrom0To999() {
        for (int bar : new int[] {0, 1, 18, 19, 99, 100, 500, 997, 998, 999, 1000, 1001, 2000, 10924}) {
            StruckThrees x = hung("t;s9;s9;s7;s8;s8;s7;s6;s7;s6", 3);
            Due.row(x, 1, 0, bar % 25, bar % 23, bar % 19);
            Due.due("at " + bar, x.together(1, 0, 0), bar <= 999 ? bar : -9);
        }
    }

    /** 'each is STRUCK at the BAR of its number, and at each BAR that is PITCH behind one at which it is': not ahead of it. */
    private static void notAheadOfItsFirstBar() {
        for (int start = 0; start <= 99; start += 9) {
            StruckThrees x = hung("t;s1;s1;s1;s3;s3;s3", 2);
            Due.row(x, 1, 2, start, 0, start);
            Due.due("alone at first and then 0", x.together(1, 2, 0), start);
            Due.due("0 at first and then it", x.together(1, 2, 1), start);
        }
        StruckThrees one = hung("t;s9;s9;s9", 1);
        for (int start : new int[] {0, 1, 26, 27, 98, 99}) {
            Due.row(one, 1, 2, start);
            Due.due("one THREE at " + start, one.together(1, 2, 0), start);
        }
    }

    /** 'NONE: there is none': where what is alike in two PITCHES keeps them apart. */
    private static void neverTogether() {
        // PITCHES 6 and 9: together where the numbers are as far apart as a row of 3s.
        for (int start = 0; start <= 20; start++) {
            StruckThrees x = hung("t;s2;s2;s2;s3;s3;s3", 2);
            Due.row(x, 1, 2, start, 0);
            int due = -9;
            for (int bar = 999; bar >= start; bar--) {
                if ((bar - start) % 6 == 0 && bar % 9 == 0) due = bar;
            }
            Due.due("6 from " + start + " on, 9", x.together(1, 2, 0), due);
            Due.due("so it is by 3s", due == -9 ? 0 : 1, start % 3 == 0 ? 1 : 0);
        }
        StruckThrees same = hung("t;s2;s2;s2;s2;s2;s2", 2);
        Due.row(same, 1, 2, 0, 5, 6);
        Due.due("the same PITCH, never", same.together(1, 2, 0), -9);
        same.put(1, 1, 6);
        Due.due("the same PITCH, once behind", same.together(1, 2, 0), 6);
    }

    /** Promise 15: 'lane', 'CAST': numbers of bytes, shorts and ints, each taken as a row of its own LANE alone. */
    private static void numbersOfEachLane() {
        for (int lane = 0; lane < 3; lane++) {
            StruckThrees x = hung("t;s5;s5;s5;s5;s5;s5", 2);
            // 65539 is 3 as a byte and as a short; 259 is 3 as a byte alone.
            Due.row(x, 1, lane, 3, 65536 + 3, 256 + 3, 3);
            int[] dues = {3, 3, -2}, behind = {3, -2, -2};
            for (int as = 0; as < 3; as++) {
                Due.due("lane " + lane + " as " + as, x.together(1, as, 0), as != lane ? -12 : dues[lane]);
                Due.due("its fault", x.fault(), as != lane ? 2 : 0);
                Due.due("lane " + lane + " as " + as + " from 1 on", x.together(1, as, 1), as != lane ? -12 : behind[lane]);
                Due.due("CAST ahead of INDEX", x.together(1, as, 3), as != lane ? -12 : -13);
            }
        }
    }

    /**
     * Promise 15: 'STATE: no THREE HANGS; FAULTS CAST, NULL, INDEX'; Terms: '1 NULL (there is nothing), 2 CAST (it is of another
     * lane, kind)': where a SHEET has nothing, nothing is of another LANE, whichever it had.
     */
    private static void nothingIsNoCastOfNumbers() {
        for (int had = -1; had < 3; had++) {
            for (int lane = 0; lane < 3; lane++) {
                StruckThrees x = hung("t;s5;s5;s5;s5;s5;s5", 2);
                if (had >= 0) Due.due("a row that is lost", x.sheet(1, had, 4) + x.lose(1), 2);
                x.sheet(2, (lane + 1) % 3, 4);
                for (int i : new int[] {0, -1, 61}) {
                    Due.due("CAST ahead", x.together(2, lane, i), -12);
                    Due.due("nothing as numbers of " + lane + ", had " + had, x.together(1, lane, i), -11);
                    Due.due("its fault", x.fault(), 1);
                }
                x.leave(0);
                x.leave(0);
                Due.due("STATE ahead of it", x.together(1, lane, 0), -3);
                Due.due("its fault", x.fault(), 0);
            }
        }
    }
}
