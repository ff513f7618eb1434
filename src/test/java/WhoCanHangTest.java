/** Promises 12 to 15: pitched, most, rather, together. */
public final class WhoCanHangTest {
    private static final int MIN = Integer.MIN_VALUE, MAX = Integer.MAX_VALUE;

    public static void main(String[] args) {
        setsOfAPitch();
        setsOfAPitchWhoeverHangs();
        mostThrees();
        mostRings();
        mostAsTheFirstRow();
        mostAfterABend();
        whoWouldRatherBe();
        struckTogether();
        togetherRefusesAndFaults();
        Due.finish();
    }

    private static void setsOfAPitch() {
        StruckThrees x = Due.townOf("t;s2;s3;s4;s2;s3");
        // 2 3 4, of two 2s and two 3s; 2 2 4 and 2 2 3 and what else there is.
        int[] nine = {1 | 2 | 4, 2 | 4 | 8, 1 | 4 | 16, 4 | 8 | 16};
        Due.due("how many of 9", x.pitched(9, -1), 4);
        for (int k = 0; k < 4; k++) Due.due("of 9 the " + k, x.pitched(9, k), nine[k]);
        Due.due("of 9 no fourth", x.pitched(9, 4), -9);
        Due.due("of 9 no 83rd", x.pitched(9, 83), -9);
        Due.due("2 2 4 can't", x.pitched(8, -1), 2);
        Due.due("2 3 3 first", x.pitched(8, 0), 1 | 2 | 16);
        Due.due("2 3 3 second", x.pitched(8, 1), 2 | 8 | 16);
        Due.due("of 27 none", x.pitched(27, -1), 0);
        Due.due("of 27 no first", x.pitched(27, 0), -9);
        Due.due("of 3 none", x.pitched(3, -1), 0);
        int[][] outside = {{2, -1}, {28, -1}, {MIN, 0}, {MAX, 0}, {9, -2}, {9, 84}, {9, MAX}, {9, MIN}};
        for (int[] c : outside) Due.due("pitched(" + c[0] + ", " + c[1] + ")", x.pitched(c[0], c[1]), -2);
        StruckThrees all = Due.townOf("t;s1;w1;b1;s1;w1;b1;s1;w1;b1");
        Due.due("all sets of nine", all.pitched(3, -1), 84);
        Due.due("the first of all", all.pitched(3, 0), 7);
        Due.due("the second of all", all.pitched(3, 1), 11);
        Due.due("the last of all", all.pitched(3, 83), 448);
        StruckThrees none = new StruckThrees();
        Due.due("pitched without a TOWN, OUTSIDE", none.pitched(2, 0), -2);
        Due.due("pitched without a TOWN", none.pitched(3, -1), -3);
    }

    private static void setsOfAPitchWhoeverHangs() {
        StruckThrees x = Due.townOf("t;s9;s9;s9;s9");
        x.hang(0, 1, 2);
        Due.due("whoever HANGS", x.pitched(27, -1), 4);
        Due.due("the second", x.pitched(27, 1), 11);
    }

    private static void most(StruckThrees x, int made, int rings, int... row) {
        Due.due("most(-2)", x.most(-2), made);
        Due.due("most(-1)", x.most(-1), rings);
        for (int p = 0; p < 9; p++) {
            Due.due("most(" + p + ")", x.most(p), p < row.length && row[p] != 9 ? row[p] : -9);
        }
        Due.due("most(-3)", x.most(-3), -2);
        Due.due("most(9)", x.most(9), -2);
        Due.due("most(MAX)", x.most(MAX), -2);
        Due.due("most(MIN)", x.most(MIN), -2);
    }

    private static void mostThrees() {
        most(Due.townOf("t;s1;s2;s3"), 0, 0, 9, 9, 9);
        most(Due.townOf("t;s1;s2;s2"), 1, 5, 0, 0, 0);
        most(Due.townOf("t;w1;w1;w1"), 1, 0, 0, 0, 0);
        // The three of 9s rings as long alone, but two are more.
        most(Due.townOf("t;b9;w1;w1;b9;w1;b9"), 2, 54, 0, 1, 1, 0, 1, 0);
        most(Due.townOf("t;b9;b9;w1;b9;w9;w9"), 2, 62, 0, 0, 0, 1, 1, 1);
        most(Due.townOf("t;s1;s1;s1;s1;s1;s1;s1;s1;s1"), 3, 9, 0, 0, 0, 1, 1, 1, 2, 2, 2);
        StruckThrees x = Due.townOf("t;s5;s5;s5;s5");
        x.hang(1, 2, 3);
        most(x, 1, 15, 0, 0, 0, 9);
        Due.due("most changes nothing", x.ofThree(0, 0), 14);
        StruckThrees none = new StruckThrees();
        Due.due("most without a TOWN, OUTSIDE", none.most(9), -2);
        Due.due("most without a TOWN", none.most(8), -3);
    }

    private static void mostRings() {
        most(Due.townOf("t;s5;w5;s5;b5;b5"), 1, 25, 0, 9, 9, 0, 0);
        most(Due.townOf("t;w5;w5;s5;b5;w5;s5;b5"), 2, 34, 0, 0, 0, 1, 9, 1, 1);
    }

    /** Rows that a walk by the least partner would meet in another order. */
    private static void mostAsTheFirstRow() {
        most(Due.townOf("t;s5;s5;s5;s5;s5;s5;s5"), 2, 30, 0, 0, 0, 1, 1, 1, 9);
        most(Due.townOf("t;s1;s2;s9;s2;s9;s2"), 2, 25, 0, 0, 1, 0, 1, 1);
        most(Due.townOf("t;s1;s3;s1;s3;s3;s3;s3"), 2, 16, 0, 0, 9, 0, 1, 1, 1);
        most(Due.townOf("t;s1;s9;s3;s9;s3;s3;s9;s3"), 2, 36, 9, 0, 1, 0, 1, 1, 0, 9);
        // 8 6 8 and 3 4 2 ring as 8 4 6 and 8 7 2 do, and person 1 is in one of them.
        most(Due.townOf("t;b8;s3;s4;b6;b8;w7;b2"), 2, 55, 0, 1, 1, 0, 0, 9, 1);
        most(Due.townOf("t;s5;b1;w4;s9;b3;w7;b3"), 2, 31, 0, 1, 9, 0, 1, 0, 1);
    }

    private static void mostAfterABend() {
        StruckThrees x = Due.townOf("t;s1;s2;s3;s9");
        Due.due("most ahead", x.most(-2), 0);
        x.bend(2, 2);
        Due.due("most behind", x.most(-2), 1);
        Due.due("RINGS behind", x.most(-1), 5);
        x.bend(3, 9);
        x.bend(0, 9);
        most(x, 1, 20, 0, 0, 9, 0);
        x.bend(0, 1);
        x.bend(2, 4);
        most(x, 0, 0, 9, 9, 9, 9);
    }

    private static void whoWouldRatherBe() {
        StruckThrees x = Due.townOf("t;s3;w4;b5;s5;s9;w9;b9;s2");
        Due.due("rather, none HANGS", x.rather(), 7);
        x.hang(4, 5, 6);
        Due.due("rather, of who HANGS not", x.rather(), 7);
        x.hang(0, 1, 2);
        Due.due("rather", x.rather(), 13);
        Due.due("rather does not HANG", x.many(1), 2);
        StruckThrees same = Due.townOf("t;s5;s5;s5;s5");
        same.hang(0, 1, 2);
        Due.due("as much is not more", same.rather(), -9);
        same.bend(3, 6);
        Due.due("more is", same.rather(), 11);
        StruckThrees can = Due.townOf("t;s1;s2;s3;s9");
        Due.due("none can HANG", can.rather(), -9);
        StruckThrees still = Due.townOf("t;w1;w1;w1");
        Due.due("0 is not more than 0", still.rather(), -9);
        StruckThrees least = Due.townOf("t;w1;w1;s1");
        Due.due("1 is more than 0", least.rather(), 7);
        StruckThrees each = Due.townOf("t;b9;b9;b9;s5;s5;s6;s4");
        each.hang(0, 1, 2);
        each.hang(3, 4, 6);
        Due.due("more than the JOY of each", each.rather(), 8 | 16 | 32);
    }

    private static void struckTogether() {
        StruckThrees x = Due.townOf("t;s4;s4;s4;s3;s3;s3;s2;s2;s3");
        x.hang(0, 1, 2);
        Due.row(x, 1, 1, 7, 4, 3, 2);
        Due.due("one alone", x.together(1, 1, 0), 7);
        Due.due("one alone, the last cell", x.together(1, 1, 3), 2);
        x.hang(3, 4, 5);
        // 12 and 9 behind 7 and 4: at 31 first.
        Due.due("two", x.together(1, 1, 0), 31);
        Due.due("two that never are", x.together(1, 1, 1), -9);
        x.hang(6, 7, 8);
        // 12, 9 and 7 behind 7, 4 and 3: 31 is 28 behind 3.
        Due.due("three", x.together(1, 1, 0), 31);
        Due.row(x, 2, 2, 99, 99, 99);
        Due.due("not ahead of the first BAR of each", x.together(2, 2, 0), 99);
        Due.row(x, 2, 2, 0, 99, 0);
        Due.due("behind the last one's", x.together(2, 2, 0), 252);
        Due.row(x, 2, 2, 0, 0, 0);
        Due.due("BAR 0", x.together(2, 2, 0), 0);
        StruckThrees y = Due.townOf("t;s9;s9;s7;s8;s8;s7;s6;s7;s6");
        y.hang(0, 1, 2);
        y.hang(3, 4, 5);
        y.hang(6, 7, 8);
        lastBars(y);
    }

    /** PITCHES 25, 23 and 19: each BAR is met once in 10925, so those about 999 tell the end. */
    private static void lastBars(StruckThrees y) {
        for (int bar = 990; bar <= 1010; bar++) {
            Due.row(y, 0, 0, bar % 25, bar % 23, bar % 19);
            Due.due("together at " + bar, y.together(0, 0, 0), bar <= 999 ? bar : -9);
        }
    }

    private static void togetherRefusesAndFaults() {
        StruckThrees x = Due.townOf("t;s4;s4;s4;s3;s3;s3");
        Due.row(x, 1, 1, 0, 0, -1, 100);
        Due.due("no THREE HANGS", x.together(1, 1, 0), -3);
        Due.due("no THREE HANGS, CAST", x.together(1, 0, 9), -3);
        Due.due("no THREE HANGS, NULL", x.together(3, 0, 9), -3);
        Due.due("its fault", x.fault(), 0);
        x.hang(0, 1, 2);
        x.hang(3, 4, 5);
        int[][] calls = {
            {-1, 1, 0, -1, 0}, {4, 9, 0, -1, 0}, {1, -1, 0, -2, 0}, {3, 3, 0, -2, 0}, {1, 0, 9, -12, 2}, {1, 2, 0, -12, 2},
            {3, 0, 9, -11, 1}, {1, 1, -1, -13, 3}, {1, 1, 3, -13, 3}, {1, 1, 4, -13, 3}, {1, 1, 5, -13, 3},
            {1, 1, MAX, -13, 3}, {1, 1, MIN, -13, 3}, {1, 1, 1, -2, 0}, {1, 1, 2, -2, 0}, {1, 1, 0, 0, 0}
        };
        for (int[] c : calls) {
            x.put(3, 0, 0);
            String call = "together(" + c[0] + ", " + c[1] + ", " + c[2] + ")";
            Due.due(call, x.together(c[0], c[1], c[2]), c[3]);
            Due.due("fault() behind " + call, x.fault(), c[4]);
        }
        for (int v : new int[] {-1, 100, MAX, MIN}) {
            Due.row(x, 2, 2, v, 0, 0, v);
            Due.due("the first is " + v, x.together(2, 2, 0), -2);
            Due.due("the last is " + v, x.together(2, 2, 2), -2);
        }
        StruckThrees none = new StruckThrees();
        Due.due("together without a TOWN", none.together(0, 0, 0), -3);
    }
}
