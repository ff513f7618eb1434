/** Part 4 and promises 16 to 20: each sentence that names a boundary case, by itself. */
public final class HowItRangEdgesTest {
    private static final long LOST = StruckThrees.LOST;
    private static final int ALL_SIDES = 1022, ALL_KINDS = 7;

    public static void main(String[] args) {
        eightReadingsAtMost();
        ringsOf0To18AreRead();
        whoeverThereIsIsRead();
        noneToAsManyAreTakenBack();
        theLastAreTakenBack();
        withoutReadingsAllAreSo();
        sidesByEachRing();
        kindsByEachRing();
        allReadingsMustBeSo();
        inPlaceOfWhatItIsAlone();
        noSideAndNoKind();
        nothingIsChangedByWhatFollows();
        oddsFromMinus1To8();
        upperAndLowerNumber();
        lowerIsAbove0();
        inLeastTerms();
        ofThoseThatAPersonIsIn();
        oddsOfWhoeverHangs();
        Due.finish();
    }

    /** 'READINGS, 8 at most, numbered by how many there are'; promise 16: 'FULL'. */
    private static void eightReadingsAtMost() {
        StruckThrees x = Due.townOf("t;s3;w4;b5");
        for (int k = 0; k < 12; k++) {
            Due.due("reading " + k, x.reading(k % 3, 3), k < 8 ? k : -4);
            Due.due("READINGS", x.many(4), Math.min(8, k + 1));
        }
        Due.due("one back", x.back(1), 7);
        Due.due("the eighth again", x.reading(0, 3), 7);
        Due.due("a ninth again", x.reading(0, 3), -4);
        Due.due("all back", x.back(8), 0);
        for (int k = 0; k < 9; k++) Due.due("reading " + k + " again", x.reading(0, 3), k < 8 ? k : -4);
        Due.due("a TOWN again", x.town(0, 0, 0, 10), 3);
        Due.due("the first again", x.reading(0, 3), 0);
    }

    /** Promise 16: 'OUTSIDE: v (0 .. 18)', where that can't be somebody's RING, too. */
    private static void ringsOf0To18AreRead() {
        for (int v = -3; v <= 21; v++) {
            for (int p = 0; p < 3; p++) {
                StruckThrees x = Due.townOf("t;s3;w4;b5");
                boolean taken = v >= 0 && v <= 18;
                Due.due("reading(" + p + ", " + v + ")", x.reading(p, v), taken ? 0 : -2);
                Due.due("READINGS", x.many(4), taken ? 1 : 0);
            }
        }
    }

    /** Promise 16: 'UNKNOWN': as many PEOPLE as there are; who HANGS and RINGS may be read, too. */
    private static void whoeverThereIsIsRead() {
        for (int people = 3; people <= 9; people++) {
            StruckThrees x = Due.townOf("t;s1;s2;s3;s4;s5;s6;s7;s8;s9".substring(0, 1 + 3 * people));
            for (int p : new int[] {-1, 0, people - 1, people, 9}) {
                boolean is = p >= 0 && p < people;
                Due.due("reading(" + p + ", 0) of " + people, x.reading(p, 0) >= 0 ? 1 : 0, is ? 1 : 0);
                Due.due("sides(" + p + ") of " + people, x.sides(p) >= 0 ? 1 : 0, is ? 1 : 0);
                Due.due("kinds(" + p + ") of " + people, x.kinds(p) >= 0 ? 1 : 0, is ? 1 : 0);
            }
        }
        StruckThrees x = Due.townOf("t;s3;w4;b5");
        x.hang(0, 1, 2);
        x.strike(0);
        Due.due("who HANGS", x.reading(0, 3), 0);
        Due.due("by it", x.sides(0), 8);
    }

    /** Promise 17: 'The last k READINGS (0 .. as many as there are) are taken back: how many are left. OUTSIDE.' */
    private static void noneToAsManyAreTakenBack() {
        for (int many = 0; many <= 8; many++) {
            for (int k = -2; k <= 10; k++) {
                StruckThrees x = Due.townOf("t;s3;w4;b5");
                for (int r = 0; r < many; r++) x.reading(0, 3);
                boolean taken = k >= 0 && k <= many;
                Due.due("back(" + k + ") of " + many, x.back(k), taken ? many - k : -2);
                Due.due("READINGS left", x.many(4), taken ? many - k : many);
            }
        }
        StruckThrees none = new StruckThrees();
        Due.due("back(0) without a TOWN", none.back(0), 0);
        Due.due("back(1) without a TOWN", none.back(1), -2);
        Due.due("back(-1) without a TOWN", none.back(-1), -2);
    }

    /** The same: the last, not the first. */
    private static void theLastAreTakenBack() {
        StruckThrees x = Due.townOf("t;w4;w4;w4");
        x.reading(0, 2);
        x.reading(1, 2);
        x.reading(1, 3);
        Due.due("by all", x.sides(1), 0);
        x.back(1);
        Due.due("by two", x.sides(1), 48);
        Due.due("by two, of the first", x.sides(0), 48);
        x.back(1);
        Due.due("by the first", x.sides(1), ALL_SIDES);
        Due.due("by the first, of the first", x.sides(0), 48);
        x.back(1);
        Due.due("by none", x.sides(0), ALL_SIDES);
    }

    /** 'SIDES of a PERSON: 1 .. 9; KINDS of a PERSON: 0 .. 2; as sets': without READINGS all, at both ends. */
    private static void withoutReadingsAllAreSo() {
        StruckThrees x = Due.townOf("t;s1;w1;b1;s9;w9;b9");
        for (int p = 0; p < 6; p++) {
            Due.due("SIDES of " + p, x.sides(p), ALL_SIDES);
            Due.due("KINDS of " + p, x.kinds(p), ALL_KINDS);
        }
    }

    /** 'in place of what it is alone, by which all READINGS are so: SIDES': 0 is half of 1, 18 twice 9, and none is 0 or 10. */
    private static void sidesByEachRing() {
        int[] wool = {1 << 1, 1 << 2 | 1 << 3, 1 << 4 | 1 << 5, 1 << 6 | 1 << 7, 1 << 8 | 1 << 9};
        for (int v = 0; v <= 18; v++) {
            StruckThrees x = Due.townOf("t;s5;w5;b5");
            int[] dues = {v >= 1 && v <= 9 ? 1 << v : 0, v < 5 ? wool[v] : 0, v >= 2 && v % 2 == 0 ? 1 << v / 2 : 0};
            for (int p = 0; p < 3; p++) {
                x.reading(p, v);
                Due.due("SIDES of " + p + " by " + v, x.sides(p), dues[p]);
                x.back(1);
            }
        }
    }

    /** The same of KINDS: of each SIDE. */
    private static void kindsByEachRing() {
        for (int side = 1; side <= 9; side++) {
            for (int p = 0; p < 3; p++) {
                StruckThrees x = Due.townOf("t;s" + side + ";w" + side + ";b" + side);
                for (int v = 0; v <= 18; v++) {
                    x.reading(p, v);
                    int due = (v == side ? 1 : 0) | (v == side / 2 ? 2 : 0) | (v == 2 * side ? 4 : 0);
                    Due.due("KINDS of " + p + " with " + side + " by " + v, x.kinds(p), due);
                    x.back(1);
                }
            }
        }
    }

    /** 'by which all READINGS are so': the first, the last, and the same twice. */
    private static void allReadingsMustBeSo() {
        for (int wrong = 0; wrong < 8; wrong++) {
            StruckThrees x = Due.townOf("t;s6;w6;b6");
            for (int k = 0; k < 8; k++) x.reading(1, k == wrong ? 4 : 3);
            Due.due("SIDES with another at " + wrong, x.sides(1), 0);
            Due.due("KINDS with another at " + wrong, x.kinds(1), 0);
            x.back(8 - wrong);
            Due.due("SIDES ahead of it", x.sides(1), wrong == 0 ? ALL_SIDES : 1 << 6 | 1 << 7);
            Due.due("KINDS ahead of it", x.kinds(1), wrong == 0 ? ALL_KINDS : 2);
        }
    }

    /** 'in place of what it is alone': all else is as it is, so READINGS of another that are not so leave none. */
    private static void inPlaceOfWhatItIsAlone() {
        StruckThrees x = Due.townOf("t;s6;w6;b6");
        x.reading(0, 6);
        x.reading(1, 3);
        x.reading(2, 12);
        int[] sides = {1 << 6, 1 << 6 | 1 << 7, 1 << 6};
        for (int p = 0; p < 3; p++) {
            Due.due("SIDES of " + p, x.sides(p), sides[p]);
            Due.due("KINDS of " + p, x.kinds(p), 1 << p);
        }
        x.bend(0, 5);
        Due.due("SIDES of who is bent", x.sides(0), 1 << 6);
        Due.due("KINDS of who is bent", x.kinds(0), 0);
        Due.due("SIDES of another", x.sides(1), 0);
        Due.due("KINDS of another", x.kinds(2), 0);
        x.bend(0, 6);
        Due.due("SIDES when bent back", x.sides(1), sides[1]);
    }

    /** The same: as sets, 0 where there is none, which is no refusal. */
    private static void noSideAndNoKind() {
        StruckThrees x = Due.townOf("t;s1;w1;b1");
        x.reading(0, 18);
        Due.due("no SIDE of STEEL", x.sides(0), 0);
        Due.due("no KIND of 1", x.kinds(0), 0);
        x.back(1);
        x.reading(1, 0);
        Due.due("SIDE of WOOL without RING", x.sides(1), 2);
        Due.due("KIND of 1 without RING", x.kinds(1), 2);
    }

    /** 'in place of what it is': what it is stays. */
    private static void nothingIsChangedByWhatFollows() {
        StruckThrees x = Due.townOf("t;s6;w6;b6"), twin = Due.townOf("t;s6;w6;b6");
        x.reading(1, 0);
        twin.reading(1, 0);
        for (int p = 0; p < 3; p++) {
            x.sides(p);
            x.kinds(p);
        }
        Told.same("SIDES and KINDS", x, twin);
    }

    /** Promise 20: '(p -1: of all, else of those that PERSON p is in; which 0 .., 1 ..). LOST: p is no PERSON, nor -1; OUTSIDE'. */
    private static void oddsFromMinus1To8() {
        for (int people = 3; people <= 9; people++) {
            StruckThrees x = Due.townOf("t;s5;s5;s5;s5;s5;s5;s5;s5;s5".substring(0, 1 + 3 * people));
            for (int p = -3; p <= 10; p++) {
                for (int which = -2; which <= 3; which++) {
                    boolean taken = p >= -1 && p < people && (which == 0 || which == 1);
                    Due.due("odds(" + p + ", " + which + ") of " + people, x.odds(p, which), taken ? 1 : LOST);
                }
            }
            Due.due("no fault of it", x.fault(), 0);
        }
        StruckThrees none = new StruckThrees();
        for (int p = -2; p <= 1; p++) {
            for (int which = -1; which <= 2; which++) Due.due("odds without a TOWN", none.odds(p, which), LOST);
        }
    }

    private static void share(String text, int p, int upper, int lower) {
        StruckThrees x = Due.townOf(text);
        Due.due("upper of " + p + " in " + text, x.odds(p, 0), upper);
        Due.due("lower of " + p + " in " + text, x.odds(p, 1), lower);
    }

    /** 'ODDS: of all sets of three PEOPLE, all alike, the share of those that can HANG': none, one, all. */
    private static void upperAndLowerNumber() {
        share("t;s1;s2;s3", -1, 0, 1);
        share("t;s2;s2;s3", -1, 1, 1);
        share("t;s1;s2;s3;s3", -1, 1, 2);
        share("t;s1;s1;s1;s2;s4;s8;s9;s9;s9", -1, 13, 42);
    }

    /** 'upper and lower number (above 0)': 0 of 84 is 0 of 1. */
    private static void lowerIsAbove0() {
        share("t;s1;s2;s3;s5;s8", -1, 0, 1);
        for (int p = 0; p < 5; p++) share("t;s1;s2;s3;s5;s8", p, 0, 1);
    }

    /** 'in least terms': 4 of 4, 2 of 4, 2 of 10, 20 of 84 and what can't be told by less. */
    private static void inLeastTerms() {
        share("t;s5;s5;s5;s5", -1, 1, 1);
        share("t;s1;s1;s2;s2", -1, 1, 2);
        share("t;s1;s1;s1;s9;s9", -1, 2, 5);
        share("t;s1;s1;s1;s1;s1;s1;s3;s6;s9", -1, 5, 21);
        share("t;s1;s1;s1;s1;s2;s4", -1, 1, 5);
        share("t;s2;s3;s4;s2", -1, 3, 4);
    }

    /** 'of those that a PERSON is in': 1 set of 3 PEOPLE, 28 of 9. */
    private static void ofThoseThatAPersonIsIn() {
        for (int p = 0; p < 3; p++) share("t;s2;s2;s3", p, 1, 1);
        for (int p = 0; p < 6; p++) share("t;s1;s1;s1;s1;s1;s1;s3;s6;s9", p, 5, 14);
        for (int p = 6; p < 9; p++) share("t;s1;s1;s1;s1;s1;s1;s3;s6;s9", p, 0, 1);
        share("t;s1;s1;s1;s1;s1;s1;s1;s1;s9", 8, 0, 1);
        share("t;s1;s1;s1;s1;s1;s1;s1;s1;s9", 0, 3, 4);
        share("t;s9;s9;s9;s9;s9;s9;s9;s9;s1", 8, 1, 1);
    }

    /** 'of all sets of three PEOPLE': who HANGS is no other, and READINGS do not count. */
    private static void oddsOfWhoeverHangs() {
        StruckThrees x = Due.townOf("t;s2;s3;s4;s2");
        x.hang(0, 1, 2);
        x.reading(3, 0);
        Due.due("upper", x.odds(-1, 0), 3);
        Due.due("lower", x.odds(-1, 1), 4);
        Due.due("upper of who HANGS", x.odds(0, 0), 2);
        Due.due("lower of who HANGS", x.odds(0, 1), 3);
    }
}
