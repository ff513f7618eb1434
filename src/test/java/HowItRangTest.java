/** Promises 16 to 20: reading, back, sides, kinds, odds. */
public final class HowItRangTest {
    private static final int MIN = Integer.MIN_VALUE, MAX = Integer.MAX_VALUE;
    private static final int ALL_SIDES = 1022, ALL_KINDS = 7;

    public static void main(String[] args) {
        readingsAreNumbered();
        readingsAreTakenBack();
        sidesByHowItRang();
        kindsByHowItRang();
        readingsOfOthersCount();
        readingsGoByHowAllIsNow();
        oddsOfAll();
        oddsOfAPerson();
        oddsAreLost();
        Due.finish();
    }

    private static void readingsAreNumbered() {
        StruckThrees x = Due.townOf("t;s3;w4;b5");
        int[][] outside = {{0, -1}, {0, 19}, {2, MAX}, {2, MIN}};
        for (int[] c : outside) Due.due("reading(" + c[0] + ", " + c[1] + ")", x.reading(c[0], c[1]), -2);
        int[][] unknown = {{-1, 0}, {3, 0}, {3, 19}, {MAX, 0}, {MIN, 0}};
        for (int[] c : unknown) Due.due("reading(" + c[0] + ", " + c[1] + ")", x.reading(c[0], c[1]), -1);
        Due.due("none yet", x.many(4), 0);
        for (int k = 0; k < 8; k++) {
            Due.due("reading " + k, x.reading(k % 3, k % 2 * 18), k);
            Due.due("many(4)", x.many(4), k + 1);
        }
        Due.due("a ninth", x.reading(0, 0), -4);
        Due.due("a ninth, OUTSIDE", x.reading(0, 19), -2);
        Due.due("a ninth, UNKNOWN", x.reading(3, 0), -1);
        Due.due("eight", x.many(4), 8);
    }

    private static void readingsAreTakenBack() {
        StruckThrees none = new StruckThrees();
        Due.due("back(0) without a TOWN", none.back(0), 0);
        Due.due("back(1) without a TOWN", none.back(1), -2);
        StruckThrees x = Due.townOf("t;s3;w4;b5");
        for (int k = 0; k < 8; k++) x.reading(0, k);
        Due.due("back(9)", x.back(9), -2);
        Due.due("back(-1)", x.back(-1), -2);
        Due.due("back(MIN)", x.back(MIN), -2);
        Due.due("back(MAX)", x.back(MAX), -2);
        Due.due("back(0)", x.back(0), 8);
        Due.due("back(7)", x.back(7), 1);
        Due.due("the first is left", x.sides(0), 0);
        Due.due("its number", x.reading(0, 0), 1);
        Due.due("back(3)", x.back(3), -2);
        Due.due("back(2)", x.back(2), 0);
        Due.due("none is left", x.sides(0), ALL_SIDES);
        Due.due("numbered anew", x.reading(0, 7), 0);
        Due.due("by the new one", x.sides(0), 1 << 7);
    }

    private static void sidesByHowItRang() {
        StruckThrees x = Due.townOf("t;s3;w4;b5");
        for (int p = 0; p < 3; p++) Due.due("without READINGS", x.sides(p), ALL_SIDES);
        for (int v = 0; v <= 18; v++) {
            x.reading(0, v);
            Due.due("steel " + v, x.sides(0), v >= 1 && v <= 9 ? 1 << v : 0);
            x.back(1);
            x.reading(1, v);
            int wool = v == 0 ? 2 : v <= 4 ? 3 << 2 * v : 0;
            Due.due("wool " + v, x.sides(1), wool);
            x.back(1);
            x.reading(2, v);
            Due.due("beater " + v, x.sides(2), v >= 2 && v % 2 == 0 ? 1 << v / 2 : 0);
            x.back(1);
        }
        Due.due("sides(-1)", x.sides(-1), -1);
        Due.due("sides(3)", x.sides(3), -1);
        Due.due("sides(MAX)", x.sides(MAX), -1);
        Due.due("nothing is changed", x.ofPerson(1, 1), 4);
    }

    private static void kindsByHowItRang() {
        StruckThrees x = Due.townOf("t;s6;w6;b6;w1");
        for (int p = 0; p < 3; p++) {
            Due.due("without READINGS", x.kinds(p), ALL_KINDS);
            for (int v = 0; v <= 18; v++) {
                x.reading(p, v);
                Due.due("kinds of " + p + " by " + v, x.kinds(p), v == 6 ? 1 : v == 3 ? 2 : v == 12 ? 4 : 0);
                x.back(1);
            }
        }
        x.reading(3, 0);
        Due.due("a wool of 1", x.kinds(3), 2);
        Due.due("kinds(-1)", x.kinds(-1), -1);
        Due.due("kinds(4)", x.kinds(4), -1);
        Due.due("kinds(MIN)", x.kinds(MIN), -1);
        Due.due("nothing is changed", x.ofPerson(0, 0), 0);
    }

    private static void readingsOfOthersCount() {
        StruckThrees x = Due.townOf("t;s3;w4;b5");
        x.reading(0, 3);
        x.reading(1, 2);
        Due.due("others' are so", x.sides(2), ALL_SIDES);
        Due.due("own and others'", x.sides(1), 48);
        x.reading(2, 8);
        Due.due("another's is not so", x.sides(0), 0);
        Due.due("another's is not so", x.kinds(1), 0);
        Due.due("by its own it is", x.sides(2), 16);
        x.reading(2, 8);
        Due.due("the same twice", x.sides(2), 16);
        x.reading(2, 10);
        Due.due("two unlike", x.sides(2), 0);
    }

    private static void readingsGoByHowAllIsNow() {
        StruckThrees x = Due.townOf("t;s3;w4;b5");
        x.reading(2, 8);
        Due.due("not so", x.sides(0), 0);
        x.bend(2, 4);
        Due.due("so when bent", x.sides(0), ALL_SIDES);
        Due.due("kinds when bent", x.kinds(2), 4);
        x.bend(2, 8);
        Due.due("kinds when bent to 8", x.kinds(2), 1);
        x.hang(0, 1, 2);
        Due.due("one who HANGS may be read", x.reading(0, 3), 1);
    }

    private static void share(StruckThrees x, int p, int upper, int lower) {
        Due.due("odds(" + p + ", 0)", x.odds(p, 0), upper);
        Due.due("odds(" + p + ", 1)", x.odds(p, 1), lower);
    }

    private static void oddsOfAll() {
        share(Due.townOf("t;s1;s2;s3"), -1, 0, 1);
        share(Due.townOf("t;s1;s2;s2"), -1, 1, 1);
        share(Due.townOf("t;s1;s1;s1;s1;s1;s1;s1;s1;s1"), -1, 1, 1);
        // 2 3 4, 2 2 3 can; 2 2 4 can't.
        share(Due.townOf("t;s2;s3;s4;s2"), -1, 3, 4);
        share(Due.townOf("t;s1;s1;s1;s9"), -1, 1, 4);
        share(Due.townOf("t;s1;s1;s1;s9;s9"), -1, 2, 5);
        StruckThrees x = Due.townOf("t;s5;s5;s5;s5");
        x.hang(0, 1, 2);
        share(x, -1, 1, 1);
    }

    private static void oddsOfAPerson() {
        StruckThrees x = Due.townOf("t;s1;s1;s1;s9;s9");
        share(x, 0, 1, 3);
        share(x, 3, 1, 2);
        StruckThrees three = Due.townOf("t;s1;s2;s3");
        for (int p = 0; p < 3; p++) share(three, p, 0, 1);
        StruckThrees nine = Due.townOf("t;s1;s1;s1;s1;s1;s1;s1;s1;s9");
        share(nine, 8, 0, 1);
        share(nine, 0, 3, 4);
        nine.bend(8, 1);
        share(nine, 8, 1, 1);
    }

    private static void oddsAreLost() {
        StruckThrees x = Due.townOf("t;s1;s2;s2");
        int[][] calls = {{-2, 0}, {3, 0}, {MIN, 1}, {MAX, 1}, {-1, -1}, {-1, 2}, {0, -1}, {0, 2}, {0, MAX}, {0, MIN}};
        for (int[] c : calls) Due.due("odds(" + c[0] + ", " + c[1] + ")", x.odds(c[0], c[1]), StruckThrees.LOST);
        StruckThrees none = new StruckThrees();
        Due.due("odds(-1, 0) without a TOWN", none.odds(-1, 0), StruckThrees.LOST);
        Due.due("odds(-1, 1) without a TOWN", none.odds(-1, 1), StruckThrees.LOST);
        Due.due("odds(0, 1) without a TOWN", none.odds(0, 1), StruckThrees.LOST);
    }
}
