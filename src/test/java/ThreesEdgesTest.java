import java.util.Arrays;

/** Part 2 and promises 5 to 11: each sentence that names a boundary case, by itself. */
public final class ThreesEdgesTest {
    private static final int STRUCK = 0, TOUCHED = 1, BARS = 2, LEFT = 3;
    private static final String SIX = "t;s3;w4;b5;s9;w9;b9", NINE = SIX + ";s2;s2;s2";

    public static void main(String[] args) {
        whichSidesCanHang();
        pitchAndRingsAtTheirEnds();
        onlyWhoIsInItCounts();
        threesAreNumberedByHowMany();
        nobodyIsInTwo();
        noThreeBehindTheLast();
        aThreeThatRingsIsNotStruck();
        aThreeThatDoesNotRingIsNotTouched();
        aThreeOfNoRings();
        oneToNinetyNineBars();
        barsUpToTheLastThatRings();
        allThatRingDoSoForOneLess();
        threesBehindAreNumberedOneLess();
        theCornerStaysInTheTown();
        noneToTwentyPairs();
        seasonsUpToTheRowsEnds();
        whatASeasonAnswers();
        firstsAndSecondsOfPairs();
        noneToNineBars();
        theFirstWrongAtEachPlace();
        noSuchThreeThen();
        itRingsItDoesNot();
        onlyTheFirstWrong();
        outsideAheadOfTheFirstWrong();
        fromHowAllIsNow();
        inHowManyBarsAnyRang();
        cellsOfEachLane();
        nothingIsNoCastOfASeason();
        Due.finish();
    }

    /**
     * 'Three PEOPLE can HANG, if each two of their SIDES are together longer than the third': not as long as it.
     * 'SHAPE: 0 all SIDES unlike, 1 just two alike, 2 all alike. CORNER: .. the longest SIDE, of several the greatest number.'
     */
    private static void whichSidesCanHang() {
        int[][] orders = {{0, 1, 2}, {0, 2, 1}, {1, 0, 2}, {1, 2, 0}, {2, 0, 1}, {2, 1, 0}};
        for (int a = 1; a <= 9; a++) {
            for (int b = 1; b <= 9; b++) {
                for (int c = 1; c <= 9; c++) {
                    StruckThrees x = Due.townOf("t;s" + a + ";w" + b + ";b" + c);
                    boolean can = a + b > c && a + c > b && b + c > a;
                    int[] order = orders[(a + 2 * b + 3 * c) % 6];
                    String sides = " of " + a + " " + b + " " + c;
                    Due.due("hang" + sides, x.hang(order[0], order[1], order[2]), can ? 0 : -3);
                    Due.due("THREES" + sides, x.many(1), can ? 1 : 0);
                    Due.due("SHAPE" + sides, x.ofThree(0, 3), !can ? -1 : a == b && b == c ? 2 : a == b || b == c || a == c ? 1 : 0);
                    Due.due("CORNER" + sides, x.ofThree(0, 4), !can ? -1 : c >= a && c >= b ? 2 : b >= a ? 1 : 0);
                    Due.due("set" + sides, x.ofThree(0, 0), can ? 7 : -1);
                    Due.due("PITCH" + sides, x.ofThree(0, 1), can ? a + b + c : -1);
                    Due.due("RINGS" + sides, x.ofThree(0, 2), can ? a + b / 2 + 2 * c : -1);
                }
            }
        }
    }

    /** 'PITCH: their SIDES together; RINGS: their RING together': 3 to 27, 0 to 54; halves are cut one by one. */
    private static void pitchAndRingsAtTheirEnds() {
        String[] texts = {"t;w1;w1;w1", "t;w3;w3;w3", "t;b9;b9;b9", "t;s1;s1;s1", "t;w9;w9;w9"};
        int[] pitches = {3, 9, 27, 3, 27}, rings = {0, 3, 54, 3, 12};
        for (int k = 0; k < texts.length; k++) {
            StruckThrees x = Due.townOf(texts[k]);
            x.hang(0, 1, 2);
            Due.due("PITCH of " + texts[k], x.ofThree(0, 1), pitches[k]);
            Due.due("RINGS of " + texts[k], x.ofThree(0, 2), rings[k]);
            Due.due("strike " + texts[k], x.strike(0), rings[k]);
            Due.due("RINGS yet " + texts[k], x.ofThree(0, 5), rings[k]);
        }
    }

    /** Promise 6: 'Of a THREE': what others in the TOWN are, ahead of them and behind them, does not count. */
    private static void onlyWhoIsInItCounts() {
        StruckThrees x = Due.townOf("t;s9;s5;w6;s1;b7;s4;w4;b3;s9");
        int[][] threes = {{1, 2, 4}, {5, 6, 7}, {7, 6, 5}, {1, 5, 6}, {0, 4, 8}};
        int[][] dues = {{22, 18, 22, 0, 4}, {224, 11, 12, 1, 6}, {224, 11, 12, 1, 6}, {98, 13, 11, 1, 1}, {273, 25, 32, 1, 8}};
        for (int k = 0; k < threes.length; k++) {
            Due.due("hang " + k, x.hang(threes[k][0], threes[k][1], threes[k][2]), 0);
            for (int what = 0; what < 5; what++) Due.due("ofThree(0, " + what + ") of " + k, x.ofThree(0, what), dues[k][what]);
            Due.due("leave " + k, x.leave(0), dues[k][4]);
        }
        for (int p = 0; p < 3; p++) x.bend(p, 8);
        x.hang(0, 1, 2);
        Due.due("all alike among others", x.ofThree(0, 3), 2);
    }

    private static StruckThrees hung(String text, int threes) {
        StruckThrees x = Due.townOf(text);
        for (int t = 0; t < threes; t++) Due.due("hang", x.hang(3 * t, 3 * t + 1, 3 * t + 2), t);
        return x;
    }

    /** 'A THREE that HANGS is numbered by how many there are': 0, 1, 2, and again from where they end when some are over. */
    private static void threesAreNumberedByHowMany() {
        StruckThrees x = hung(NINE, 3);
        Due.due("three HANG", x.many(1), 3);
        for (int t = 0; t < 3; t++) Due.due("who is in " + t, x.ofThree(t, 0), 7 << 3 * t);
        x.leave(2);
        Due.due("the last again", x.hang(8, 7, 6), 2);
        x.leave(0);
        Due.due("the first again is last", x.hang(0, 1, 2), 2);
        Due.due("it is behind the others", x.ofThree(2, 0), 7);
    }

    /** 'nobody is in two of them'; promise 5: 'UNKNOWN: one of them, two of them the same; STATE: one of them HANGS'. */
    private static void nobodyIsInTwo() {
        StruckThrees x = hung("t;s5;s5;s5;s5;s5;s5;s5", 1);
        for (int p = 0; p < 3; p++) {
            Due.due("hang first " + p, x.hang(p, 3, 4), -3);
            Due.due("hang second " + p, x.hang(3, p, 4), -3);
            Due.due("hang third " + p, x.hang(3, 4, p), -3);
            Due.due("hang twice " + p, x.hang(p, p, 3), -1);
            Due.due("hang with nobody " + p, x.hang(p, 7, 3), -1);
        }
        Due.due("hang the same two, who don't", x.hang(3, 4, 3), -1);
        Due.due("one HANGS", x.many(1), 1);
        Due.due("hang the others", x.hang(6, 4, 5), 1);
        Due.due("who is left", x.hang(3, 4, 5), -3);
    }

    /** Promises 6, 7, 8, 10: 'UNKNOWN': a THREE is 0 up to how many HANG, less 1. */
    private static void noThreeBehindTheLast() {
        for (int threes = 0; threes <= 3; threes++) {
            for (int t = -1; t <= 3; t++) {
                StruckThrees x = hung(NINE, threes);
                boolean is = t >= 0 && t < threes;
                String of = " of " + t + " where " + threes + " HANG";
                for (int what = 0; what <= 5; what++) Due.due("ofThree" + of, x.ofThree(t, what) == -1 ? 0 : 1, is ? 1 : 0);
                Due.due("ofThree -1" + of, x.ofThree(t, -1), is ? -2 : -1);
                Due.due("ofThree 6" + of, x.ofThree(t, 6), is ? -2 : -1);
                Due.due("touch" + of, x.touch(t), is ? -3 : -1);
                Due.due("strike" + of, x.strike(t), is ? new int[] {15, 31, 6}[t] : -1);
                Due.due("leave" + of, x.leave(t), is ? new int[] {2, 5, 8}[t] : -1);
                Due.due("how many are left", x.many(1), is ? threes - 1 : threes);
            }
        }
    }

    /** 'STRUCK, it RINGS for as many BARS as its RINGS are (it must not RING yet)'; promise 7: 'STATE: it RINGS yet'. */
    private static void aThreeThatRingsIsNotStruck() {
        StruckThrees x = hung(NINE, 3);
        Due.due("strike", x.strike(2), 6);
        for (int left = 6; left >= 1; left--) {
            Due.due("strike with " + left + " left", x.strike(2), -3);
            Due.due("as many are left", x.ofThree(2, 5), left);
            x.bars(1);
        }
        Due.due("strike with none left", x.strike(2), 6);
        x.touch(2);
        Due.due("strike what was TOUCHED", x.strike(2), 6);
        Due.due("strike another", x.strike(0), 15);
        x.leave(2);
        x.hang(6, 7, 8);
        Due.due("strike what HANGS anew", x.strike(2), 6);
    }

    /** 'TOUCHED, one that RINGS does so no longer'; promise 8: 'for how many BARS it would have gone on .. STATE: it does not RING'. */
    private static void aThreeThatDoesNotRingIsNotTouched() {
        for (int gone = 0; gone <= 7; gone++) {
            StruckThrees x = hung(NINE, 3);
            Due.due("touch ahead of it", x.touch(2), -3);
            x.strike(2);
            if (gone > 0) x.bars(gone);
            Due.due("touch behind " + gone, x.touch(2), gone < 6 ? 6 - gone : -3);
            Due.due("none is left", x.ofThree(2, 5), 0);
            Due.due("none RINGS", x.many(3), 0);
            Due.due("touch again", x.touch(2), -3);
            Due.due("touch another", x.touch(0), -3);
        }
    }

    /** A THREE whose RINGS are 0 is STRUCK for 0 BARS: it does not RING. */
    private static void aThreeOfNoRings() {
        StruckThrees x = hung("t;w1;w1;w1;s1;w1;w1", 2);
        Due.due("strike for 0 BARS", x.strike(0), 0);
        Due.due("it does not RING", x.many(3), 0);
        Due.due("strike again", x.strike(0), 0);
        Due.due("touch", x.touch(0), -3);
        Due.due("strike for 1 BAR", x.strike(1), 1);
        Due.due("it RINGS", x.many(3), 1);
        Due.due("strike again", x.strike(1), -3);
        Due.due("one BAR", x.bars(1), 0);
        Due.row(x, 1, 0, 0, STRUCK, 0, STRUCK, 0, TOUCHED);
        Due.due("STRUCK twice", x.season(1, 0, 0, 2, 1), -9);
        Due.due("then TOUCHED", x.season(1, 0, 0, 3, 1), 2);
    }

    /** Promise 9: 'n BARS (1 .. 99) go by .. OUTSIDE; STATE: there is no TOWN.' */
    private static void oneToNinetyNineBars() {
        StruckThrees x = hung(SIX, 1);
        int bar = 0;
        for (int n = -1; n <= 101; n++) {
            boolean taken = n >= 1 && n <= 99;
            Due.due("bars(" + n + ")", x.bars(n), taken ? 0 : -2);
            bar += taken ? n : 0;
            Due.due("BAR then", x.many(2), bar);
        }
        StruckThrees none = new StruckThrees();
        Due.due("bars(0) without a TOWN", none.bars(0), -2);
        Due.due("bars(100) without a TOWN", none.bars(100), -2);
        Due.due("bars(1) without a TOWN", none.bars(1), -3);
        Due.due("bars(99) without a TOWN", none.bars(99), -3);
        Due.due("BAR without a TOWN", none.many(2), 0);
        StruckThrees still = Due.townOf(SIX);
        Due.due("bars where none HANGS", still.bars(99), 0);
        Due.due("BAR where none HANGS", still.many(2), 99);
    }

    /** Promise 9: 'how many THREES RING yet': one less than its RINGS, as many, one more; never below 0. */
    private static void barsUpToTheLastThatRings() {
        int[] rings = {15, 31, 54};
        for (int t = 0; t < 3; t++) {
            for (int more = -1; more <= 1; more++) {
                StruckThrees x = hung(SIX + ";b9;b9;b9", 3);
                Due.due("strike", x.strike(t), rings[t]);
                Due.due("bars to " + more, x.bars(rings[t] + more), more < 0 ? 1 : 0);
                Due.due("left", x.ofThree(t, 5), more < 0 ? 1 : 0);
                Due.due("THREES that RING", x.many(3), more < 0 ? 1 : 0);
                Due.due("one BAR more", x.bars(1), 0);
                Due.due("left then", x.ofThree(t, 5), 0);
            }
        }
    }

    /** 'A BAR: all that RING do so for one less.' */
    private static void allThatRingDoSoForOneLess() {
        StruckThrees x = hung(NINE, 3);
        x.strike(0);
        x.bars(4);
        x.strike(1);
        x.strike(2);
        int[] left = {11, 31, 6};
        for (int bar = 1; bar <= 33; bar++) {
            int ringing = 0;
            for (int t = 0; t < 3; t++) {
                if (left[t] > 0) left[t]--;
                if (left[t] > 0) ringing++;
            }
            Due.due("BAR " + bar, x.bars(1), ringing);
            Due.due("THREES that RING", x.many(3), ringing);
            for (int t = 0; t < 3; t++) Due.due("left of " + t, x.ofThree(t, 5), left[t]);
        }
    }

    /** 'the THREE does not HANG any more, THREES behind it are numbered 1 less': the first, one between, the last, the only one. */
    private static void threesBehindAreNumberedOneLess() {
        int[] left = {14, 30, 5}, corners = {2, 5, 8};
        for (int gone = 0; gone < 3; gone++) {
            StruckThrees x = hung(NINE, 3);
            for (int t = 0; t < 3; t++) x.strike(t);
            x.bars(1);
            Due.due("leave " + gone, x.leave(gone), corners[gone]);
            int now = 0;
            for (int t = 0; t < 3; t++) {
                if (t == gone) continue;
                Due.due("who is in what was " + t, x.ofThree(now, 0), 7 << 3 * t);
                Due.due("what is left of what was " + t, x.ofThree(now, 5), left[t]);
                Due.due("THREE of one of them", x.ofPerson(3 * t, 3), now);
                now++;
            }
            for (int p = 3 * gone; p < 3 * gone + 3; p++) Due.due("THREE of " + p, x.ofPerson(p, 3), -9);
            Due.due("there is no third", x.ofThree(2, 0), -1);
            Due.due("THREES that RING", x.many(3), 2);
            Due.due("anew it does not RING", x.hang(3 * gone, 3 * gone + 1, 3 * gone + 2), 2);
            Due.due("so it has none left", x.ofThree(2, 5), 0);
        }
        StruckThrees only = hung(SIX, 1);
        Due.due("leave the only one", only.leave(0), 2);
        Due.due("leave again", only.leave(0), -1);
        Due.due("THREES", only.many(1), 0);
    }

    /** 'The CORNER LEAVES': nothing is said of the PEOPLE of the TOWN. */
    private static void theCornerStaysInTheTown() {
        StruckThrees x = hung("t;s5;s5;s5", 1);
        Due.due("of several the greatest number", x.leave(0), 2);
        Due.due("PEOPLE", x.many(0), 3);
        Due.due("SIDE of who left", x.ofPerson(2, 1), 5);
        Due.due("who left HANGS again", x.hang(2, 1, 0), 0);
    }

    /** Promise 11: 'n (0 .. 20)'. */
    private static void noneToTwentyPairs() {
        StruckThrees x = hung(SIX, 2);
        int[] pairs = new int[60];
        for (int k = 0; k < 30; k++) {
            pairs[2 * k] = 1;
            pairs[2 * k + 1] = k % 2 == 0 ? STRUCK : TOUCHED;
        }
        Due.row(x, 1, 2, pairs);
        for (int n = -2; n <= 31; n++) {
            boolean taken = n >= 0 && n <= 20;
            Due.due("season of " + n + " pairs", x.season(1, 2, 0, n, 1), taken ? -9 : -2);
            Due.due("THREES that RING behind " + n, x.season(1, 2, 0, n, 0), taken ? n % 2 : -2);
        }
        Due.due("so many as MAX", x.season(1, 2, 0, Integer.MAX_VALUE, 1), -2);
        // Twice this is 0 as an int.
        Due.due("so many as MIN", x.season(1, 2, 0, Integer.MIN_VALUE, 1), -2);
    }

    /** Promise 11: 'cells of a SHEET from i on (2 n)', 'INDEX'; 'if none of them is taken, too'. */
    private static void seasonsUpToTheRowsEnds() {
        for (int length = 0; length <= 6; length++) {
            StruckThrees x = hung(SIX, 2);
            int[] bars = new int[length];
            for (int k = 0; k < length; k++) bars[k] = BARS;
            Due.row(x, 1, 1, bars);
            for (int i = -1; i <= length + 1; i++) {
                for (int n = 0; n <= 4; n++) {
                    boolean there = i >= 0 && i <= length && i + 2 * n <= length;
                    Due.due("season of " + n + " from " + i + " on of " + length, x.season(1, 1, i, n, 1), there ? -9 : -13);
                    Due.due("its fault", x.fault(), there ? 0 : 3);
                }
            }
            Due.due("from MAX on", x.season(1, 1, Integer.MAX_VALUE, 20, 1), -13);
            Due.due("from MAX on, none", x.season(1, 1, Integer.MAX_VALUE, 0, 1), -13);
            Due.due("from MIN on", x.season(1, 1, Integer.MIN_VALUE, 20, 1), -13);
            Due.due("nothing of it is STATE", x.many(1), 2);
        }
    }

    /** Promise 11: 'what (0 .. 4)', of a SEASON of no pairs and of one with a FIRST WRONG, too. */
    private static void whatASeasonAnswers() {
        StruckThrees x = hung(SIX, 2);
        x.strike(0);
        x.bars(1);
        Due.row(x, 1, 0, 1, STRUCK, 2, BARS, 2, STRUCK);
        int[] none = {1, -9, 0, 63, 14}, two = {2, -9, 2, 63, 41}, wrong = {-102, 2, -102, -102, -102};
        for (int what = -2; what <= 6; what++) {
            boolean taken = what >= 0 && what <= 4;
            Due.due("no pairs, " + what, x.season(1, 0, 6, 0, what), taken ? none[what] : -2);
            Due.due("two pairs, " + what, x.season(1, 0, 0, 2, what), taken ? two[what] : -2);
            Due.due("three pairs, " + what, x.season(1, 0, 0, 3, what), taken ? wrong[what] : -2);
            Due.due("fault()", x.fault(), 0);
        }
    }

    /** '0 .. 2 and 0: .. STRUCK; and 1: .. TOUCHED; and 3: its CORNER LEAVES; 0 .. 9 and 2: so many BARS', and nothing else. */
    private static void firstsAndSecondsOfPairs() {
        for (int second = -2; second <= 5; second++) {
            for (int first = -2; first <= 11; first++) {
                StruckThrees x = hung(NINE, 3);
                x.strike(1);
                boolean told = second >= 0 && second <= 3 && first >= 0 && first <= (second == BARS ? 9 : 2);
                boolean can = second == STRUCK && first != 1 || second == TOUCHED && first == 1 || second > TOUCHED;
                int[][] rows = {{first, second}, {0, BARS, first, second}, {first, second, 0, BARS}};
                int[] places = {0, 1, 0};
                for (int k = 0; k < 3; k++) {
                    Due.row(x, 1, 0, rows[k]);
                    int due = !told ? -2 : can ? -9 : places[k];
                    Due.due("pair " + first + ", " + second, x.season(1, 0, 0, rows[k].length / 2, 1), due);
                    Due.due("its fault", x.fault(), 0);
                }
            }
        }
    }

    /** '0 .. 9 and 2: so many BARS.' */
    private static void noneToNineBars() {
        for (int n = 0; n <= 9; n++) {
            StruckThrees x = hung(NINE, 3);
            Due.row(x, 1, 2, 2, STRUCK, n, BARS);
            Due.due("left behind " + n, x.season(1, 2, 0, 2, 4), Math.max(0, 6 - n));
            Due.due("RANG in " + n, x.season(1, 2, 0, 2, 2), Math.min(6, n));
            Due.due("RING behind " + n, x.season(1, 2, 0, 2, 0), n < 6 ? 1 : 0);
        }
    }

    /** 'FIRST WRONG: the first act that can't be'; promise 11: '-100 less that (but what 1)': at 0 up to 19, or NONE. */
    private static void theFirstWrongAtEachPlace() {
        for (int place = 0; place <= 20; place++) {
            StruckThrees x = hung(SIX, 2);
            int[] pairs = new int[40];
            for (int k = 0; k < 20; k++) {
                pairs[2 * k] = k == place ? 2 : 9;
                pairs[2 * k + 1] = k == place ? LEFT : BARS;
            }
            Due.row(x, 1, 2, pairs);
            for (int what = 0; what <= 4; what++) {
                int good = what == 3 ? 63 : 0;
                int due = what == 1 ? place == 20 ? -9 : place : place == 20 ? good : -100 - place;
                Due.due("wrong at " + place + ", " + what, x.season(1, 2, 0, 20, what), due);
            }
            Due.due("a SEASON that ends ahead of it", x.season(1, 2, 0, place, 1), -9);
        }
    }

    private static void firstWrong(StruckThrees x, int due, int... pairs) {
        Due.row(x, 1, 2, pairs);
        Due.due("FIRST WRONG of " + Arrays.toString(pairs), x.season(1, 2, 0, pairs.length / 2, 1), due);
    }

    /** '(there is no such THREE then ..)': as many as HANG then, not now. */
    private static void noSuchThreeThen() {
        for (int threes = 0; threes <= 3; threes++) {
            for (int t = 0; t < 3; t++) {
                StruckThrees x = hung(NINE, threes);
                firstWrong(x, t < threes ? -9 : 0, t, STRUCK);
                firstWrong(x, t < threes ? -9 : 0, t, LEFT);
                firstWrong(x, t < threes ? -9 : 0, t, STRUCK, t, TOUCHED);
                if (threes > 0) firstWrong(x, t < threes - 1 ? -9 : 1, 0, LEFT, t, STRUCK);
                if (threes > 0) firstWrong(x, t < threes - 1 ? -9 : 2, 0, STRUCK, 0, LEFT, t, LEFT);
            }
        }
        StruckThrees x = hung(NINE, 3);
        firstWrong(x, -9, 0, LEFT, 0, LEFT, 0, LEFT);
        firstWrong(x, 3, 0, LEFT, 0, LEFT, 0, LEFT, 0, LEFT);
        firstWrong(x, -9, 2, LEFT, 1, LEFT, 0, LEFT);
        firstWrong(x, 2, 2, STRUCK, 2, LEFT, 2, TOUCHED);
        // What RINGS takes its BARS along, when it is numbered 1 less.
        firstWrong(x, -9, 2, STRUCK, 0, LEFT, 1, TOUCHED);
        firstWrong(x, 2, 2, STRUCK, 0, LEFT, 0, TOUCHED);
        firstWrong(x, 2, 2, STRUCK, 0, LEFT, 1, STRUCK);
    }

    /** '(.. it RINGS, it does not)': STRUCK in the last BAR in which it RINGS, and in the first in which it does not. */
    private static void itRingsItDoesNot() {
        StruckThrees x = hung(NINE, 3);
        firstWrong(x, 1, 2, STRUCK, 2, STRUCK);
        firstWrong(x, 2, 2, STRUCK, 5, BARS, 2, STRUCK);
        firstWrong(x, -9, 2, STRUCK, 6, BARS, 2, STRUCK);
        firstWrong(x, -9, 2, STRUCK, 7, BARS, 2, STRUCK);
        firstWrong(x, 0, 2, TOUCHED);
        firstWrong(x, -9, 2, STRUCK, 5, BARS, 2, TOUCHED);
        firstWrong(x, 2, 2, STRUCK, 6, BARS, 2, TOUCHED);
        firstWrong(x, 2, 2, STRUCK, 2, TOUCHED, 2, TOUCHED);
        firstWrong(x, -9, 2, STRUCK, 2, TOUCHED, 2, STRUCK);
        firstWrong(x, 1, 0, STRUCK, 2, TOUCHED);
        firstWrong(x, -9, 2, STRUCK, 2, LEFT);
        firstWrong(x, -9, 2, LEFT);
    }

    /** 'the first act that can't be': what is wrong behind it does not count. */
    private static void onlyTheFirstWrong() {
        StruckThrees x = hung(SIX, 2);
        firstWrong(x, 0, 2, STRUCK, 2, LEFT, 0, TOUCHED);
        firstWrong(x, 1, 0, STRUCK, 0, STRUCK, 1, TOUCHED);
        firstWrong(x, 2, 0, LEFT, 0, LEFT, 0, LEFT, 0, STRUCK);
    }

    /** 'pair by pair OUTSIDE' is a refusal, and stands ahead of what the call answers: ahead of a FIRST WRONG and behind it. */
    private static void outsideAheadOfTheFirstWrong() {
        StruckThrees x = hung(SIX, 2);
        firstWrong(x, -2, 2, STRUCK, 3, STRUCK);
        firstWrong(x, -2, 3, STRUCK, 2, STRUCK);
        firstWrong(x, -2, 0, TOUCHED, 10, BARS);
        firstWrong(x, -2, 0, TOUCHED, 0, BARS, 0, 4);
        Due.due("the SEASON ahead of it", x.season(1, 2, 0, 2, 1), 0);
        Due.due("all of it, how many RING", x.season(1, 2, 0, 3, 0), -2);
        Due.due("fault()", x.fault(), 0);
    }

    /** 'from how all is now (nothing is changed)'. */
    private static void fromHowAllIsNow() {
        for (int gone = 1; gone <= 7; gone++) {
            StruckThrees x = hung(NINE, 3), twin = hung(NINE, 3);
            for (StruckThrees one : new StruckThrees[] {x, twin}) {
                one.strike(2);
                one.strike(0);
                one.bars(gone);
                Due.row(one, 1, 2, 2, TOUCHED, 0, TOUCHED, 1, STRUCK, 9, BARS, 0, LEFT, 0, LEFT, 0, LEFT, 0, BARS);
            }
            int left = Math.max(0, 6 - gone);
            Due.due("left now", x.season(1, 2, 0, 0, 4), left + 15 - gone);
            Due.due("RING now", x.season(1, 2, 0, 0, 0), gone < 6 ? 2 : 1);
            Due.due("TOUCHED now", x.season(1, 2, 0, 2, 1), gone < 6 ? -9 : 0);
            Due.due("all LEAVE", x.season(1, 2, 8, 4, 3), 0);
            Due.due("two LEAVE", x.season(1, 2, 8, 2, 3), 448);
            Told.same("SEASONS", x, twin);
        }
    }

    /** Promise 11: 'in how many of its BARS any RANG': the last BAR in which one RINGS counts, two at once count once. */
    private static void inHowManyBarsAnyRang() {
        StruckThrees x = hung(NINE, 3);
        int[][] rows = {
            {9, BARS}, {2, STRUCK, 0, BARS}, {2, STRUCK, 1, BARS}, {2, STRUCK, 6, BARS}, {2, STRUCK, 7, BARS},
            {2, STRUCK, 0, STRUCK, 9, BARS, 9, BARS}, {3, BARS, 2, STRUCK, 3, BARS, 2, TOUCHED, 3, BARS, 2, STRUCK, 9, BARS},
            {2, STRUCK, 2, LEFT, 9, BARS}, {2, STRUCK, 4, BARS, 0, LEFT, 4, BARS}, {1, STRUCK, 9, BARS, 9, BARS, 9, BARS, 4, BARS, 9, BARS}
        };
        int[] dues = {0, 0, 1, 6, 6, 15, 9, 0, 6, 31};
        for (int k = 0; k < rows.length; k++) {
            Due.row(x, 1, 2, rows[k]);
            Due.due("RANG " + k, x.season(1, 2, 0, rows[k].length / 2, 2), dues[k]);
        }
        StruckThrees none = Due.townOf(SIX);
        Due.row(none, 1, 2, 9, BARS);
        Due.due("none HANGS", none.season(1, 2, 0, 1, 2), 0);
        Due.due("nobody HANGS", none.season(1, 2, 0, 1, 3), 0);
    }

    /** Promise 11: 'lane', 'CAST': pairs of bytes, shorts and ints, each taken as a row of its own LANE alone. */
    private static void cellsOfEachLane() {
        for (int lane = 0; lane < 3; lane++) {
            StruckThrees x = hung(SIX, 2);
            Due.row(x, 1, lane, 256, 65536);
            for (int as = 0; as < 3; as++) {
                // As bytes both are 0 and 0; as shorts 256 and 0; as ints 256 and 65536.
                Due.due("lane " + lane + " as " + as, x.season(1, as, 0, 1, 1), as != lane ? -12 : lane == 0 ? -9 : -2);
                Due.due("its fault", x.fault(), as != lane ? 2 : 0);
            }
        }
    }

    /**
     * Promise 11: 'FAULTS CAST, NULL, INDEX'; Terms: '1 NULL (there is nothing), 2 CAST (it is of another lane, kind)': where a
     * SHEET has nothing, nothing is of another LANE, whichever it had, and whether there is a TOWN or none.
     */
    private static void nothingIsNoCastOfASeason() {
        for (int had = -1; had < 3; had++) {
            for (int lane = 0; lane < 3; lane++) {
                for (StruckThrees x : new StruckThrees[] {hung(SIX, 2), new StruckThrees()}) {
                    if (had >= 0) Due.due("a row that is lost", x.sheet(1, had, 4) + x.lose(1), 2);
                    for (int[] a : new int[][] {{0, 0, 0}, {0, 2, 1}, {-1, 20, 4}, {61, 0, 3}}) {
                        Due.due("a row ahead", x.sheet(2, (lane + 1) % 3, 4), 1);
                        Due.due("CAST ahead", x.season(2, lane, a[0], a[1], a[2]), -12);
                        Due.due("nothing as a SEASON of " + lane + ", had " + had, x.season(1, lane, a[0], a[1], a[2]), -11);
                        Due.due("its fault", x.fault(), 1);
                    }
                    Due.due("OUTSIDE ahead of it: n", x.season(1, lane, 0, 21, 0), -2);
                    Due.due("its fault", x.fault(), 0);
                }
            }
        }
    }
}
