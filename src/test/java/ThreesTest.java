/** Promises 5 to 11: hang, ofThree, strike, touch, bars, leave, season. */
public final class ThreesTest {
    private static final int MIN = Integer.MIN_VALUE, MAX = Integer.MAX_VALUE;
    private static final int STRUCK = 0, TOUCHED = 1, BARS = 2, LEFT = 3;

    public static void main(String[] args) {
        threesHang();
        threesCantHang();
        threesAreTold();
        threesAreStruckAndTouched();
        aThreeWithoutRings();
        barsGoBy();
        cornersLeave();
        seasonsAreTold();
        seasonsGoWrong();
        seasonsBeginAsAllIsNow();
        seasonsRefuseAndFault();
        Due.finish();
    }

    private static void threesHang() {
        StruckThrees x = Due.townOf("t;s3;w4;b5;s5;s9;w9;b9;s2;s4");
        Due.due("hang", x.hang(6, 4, 5), 0);
        Due.due("hang", x.hang(2, 0, 1), 1);
        Due.due("hang", x.hang(8, 7, 3), 2);
        Due.due("THREES", x.many(1), 3);
        int[] three = {1, 1, 1, 2, 0, 0, 0, 2, 2};
        for (int p = 0; p < 9; p++) Due.due("THREE of " + p, x.ofPerson(p, 3), three[p]);
        Due.due("hang all", x.hang(0, 3, 4), -3);
    }

    private static void threesCantHang() {
        StruckThrees x = Due.townOf("t;s3;w4;b5;s5;s9;w9;s1;s2");
        int[][] calls = {
            {-1, 0, 1, -1}, {0, -1, 1, -1}, {0, 1, -1, -1}, {8, 0, 1, -1}, {0, 8, 1, -1}, {0, 1, 8, -1},
            {0, 1, MAX, -1}, {MIN, 0, 1, -1}, {32, 1, 2, -1}, {0, 0, 1, -1}, {0, 1, 0, -1}, {1, 0, 0, -1}, {0, 0, 0, -1},
            // 3 + 1 = 4, 3 + 2 = 5, 4 + 5 = 9: as long as the third is not longer.
            {0, 6, 1, -3}, {0, 7, 3, -3}, {1, 3, 4, -3}, {4, 3, 1, -3}, {4, 0, 1, -3}, {7, 6, 5, -3}
        };
        for (int[] c : calls) Due.due("hang(" + c[0] + ", " + c[1] + ", " + c[2] + ")", x.hang(c[0], c[1], c[2]), c[3]);
        Due.due("none HANGS", x.many(1), 0);
        Due.due("hang", x.hang(0, 1, 2), 0);
        Due.due("hang who HANGS, first", x.hang(0, 4, 5), -3);
        Due.due("hang who HANGS, second", x.hang(4, 1, 5), -3);
        Due.due("hang who HANGS, third", x.hang(4, 5, 2), -3);
        Due.due("hang who HANGS, twice", x.hang(2, 4, 4), -1);
        Due.due("one HANGS", x.many(1), 1);
        Due.due("another", x.hang(5, 4, 3), 1);
    }

    private static void threesAreTold() {
        StruckThrees x = Due.townOf("t;s3;w4;b5;s6;s6;w9;b2;s2;s2");
        x.hang(2, 1, 0);
        x.hang(5, 3, 4);
        x.hang(6, 7, 8);
        int[][] due = {{7, 12, 15, 0, 2, 0}, {56, 21, 16, 1, 5, 0}, {448, 6, 8, 2, 8, 0}};
        for (int t = 0; t < 3; t++) {
            for (int what = 0; what <= 5; what++) {
                Due.due("ofThree(" + t + ", " + what + ")", x.ofThree(t, what), due[t][what]);
            }
            Due.due("ofThree -1", x.ofThree(t, -1), -2);
            Due.due("ofThree 6", x.ofThree(t, 6), -2);
        }
        Due.due("ofThree(-1, 0)", x.ofThree(-1, 0), -1);
        Due.due("ofThree(3, 9)", x.ofThree(3, 9), -1);
        Due.due("ofThree(MAX, 0)", x.ofThree(MAX, 0), -1);
        StruckThrees y = Due.townOf("t;s6;s2;s6;s5;s8;s8");
        y.hang(1, 2, 0);
        Due.due("CORNER of two long", y.ofThree(0, 4), 2);
        y.leave(0);
        y.hang(4, 5, 3);
        Due.due("CORNER of two long behind", y.ofThree(0, 4), 5);
        y.leave(0);
        y.hang(4, 3, 0);
        Due.due("CORNER in the middle of none", y.ofThree(0, 4), 4);
    }

    private static void threesAreStruckAndTouched() {
        StruckThrees x = Due.townOf("t;s3;w4;b5;s9;w9;b9");
        Due.due("strike none", x.strike(0), -1);
        Due.due("touch none", x.touch(0), -1);
        x.hang(0, 1, 2);
        x.hang(3, 4, 5);
        Due.due("touch what does not RING", x.touch(1), -3);
        Due.due("strike", x.strike(1), 31);
        Due.due("strike again", x.strike(1), -3);
        Due.due("RINGS yet", x.ofThree(1, 5), 31);
        Due.due("the other does not", x.ofThree(0, 5), 0);
        Due.due("THREES that RING", x.many(3), 1);
        x.bars(30);
        Due.due("strike while it RINGS", x.strike(1), -3);
        Due.due("touch the last BAR", x.touch(1), 1);
        Due.due("touch again", x.touch(1), -3);
        Due.due("THREES that RING then", x.many(3), 0);
        Due.due("strike anew", x.strike(1), 31);
        Due.due("strike the other", x.strike(0), 15);
        Due.due("both RING", x.many(3), 2);
        for (int t : new int[] {-1, 2, 3, MAX, MIN}) {
            Due.due("strike(" + t + ")", x.strike(t), -1);
            Due.due("touch(" + t + ")", x.touch(t), -1);
            Due.due("leave(" + t + ")", x.leave(t), -1);
        }
    }

    private static void aThreeWithoutRings() {
        StruckThrees x = Due.townOf("t;w1;w1;w1");
        x.hang(0, 1, 2);
        Due.due("strike without RINGS", x.strike(0), 0);
        Due.due("it does not RING", x.many(3), 0);
        Due.due("touch it", x.touch(0), -3);
        Due.due("strike it again", x.strike(0), 0);
    }

    private static void barsGoBy() {
        StruckThrees x = Due.townOf("t;s3;w4;b5;s9;w9;b9");
        x.hang(0, 1, 2);
        x.hang(3, 4, 5);
        x.strike(0);
        x.strike(1);
        Due.due("bars(0)", x.bars(0), -2);
        Due.due("bars(100)", x.bars(100), -2);
        Due.due("bars(-1)", x.bars(-1), -2);
        Due.due("no BAR went by", x.many(2), 0);
        Due.due("bars(14)", x.bars(14), 2);
        Due.due("one yet", x.ofThree(0, 5), 1);
        Due.due("bars(1)", x.bars(1), 1);
        Due.due("none yet", x.ofThree(0, 5), 0);
        Due.due("sixteen yet", x.ofThree(1, 5), 16);
        Due.due("bars(99)", x.bars(99), 0);
        Due.due("never below 0", x.ofThree(1, 5), 0);
        Due.due("BAR", x.many(2), 114);
        StruckThrees y = new StruckThrees();
        Due.due("bars(0) without a TOWN", y.bars(0), -2);
        Due.due("bars(1) without a TOWN", y.bars(1), -3);
    }

    private static void cornersLeave() {
        StruckThrees x = Due.townOf("t;s3;w4;b5;s9;w9;b9;s2;s2;s2");
        x.hang(3, 4, 5);
        x.hang(0, 1, 2);
        x.hang(6, 7, 8);
        x.strike(0);
        x.strike(2);
        x.bars(2);
        Due.due("leave", x.leave(1), 2);
        Due.due("THREES", x.many(1), 2);
        Due.due("numbered 1 less", x.ofThree(1, 0), 448);
        Due.due("it RINGS as before", x.ofThree(1, 5), 4);
        Due.due("the one ahead as before", x.ofThree(0, 0), 56);
        Due.due("RINGS as before", x.ofThree(0, 5), 29);
        Due.due("THREE of who left", x.ofPerson(2, 3), -9);
        Due.due("THREE of who was with them", x.ofPerson(0, 3), -9);
        Due.due("THREE of one behind", x.ofPerson(8, 3), 1);
        Due.due("who left is there", x.many(0), 9);
        Due.due("leave the first", x.leave(0), 5);
        Due.due("last one is first", x.ofThree(0, 0), 448);
        Due.due("hang anew", x.hang(0, 1, 2), 1);
        Due.due("a new one does not RING", x.ofThree(1, 5), 0);
        Due.due("leave", x.leave(0), 8);
        Due.due("leave", x.leave(0), 2);
        Due.due("leave none", x.leave(0), -1);
        Due.due("none HANGS", x.many(1), 0);
    }

    private static void seasonsAreTold() {
        StruckThrees x = Due.townOf("t;s3;w4;b5;s9;w9;b9;s2;s2;s2");
        x.hang(3, 4, 5);
        x.hang(0, 1, 2);
        x.hang(6, 7, 8);
        told(x, new int[] {0, -9, 0, 511, 0});
        told(x, new int[] {0, -9, 0, 511, 0}, 9, BARS, 0, BARS);
        told(x, new int[] {1, -9, 6, 455, 15}, 0, STRUCK, 6, BARS, 0, TOUCHED, 2, BARS, 1, STRUCK, 1, TOUCHED,
            2, STRUCK, 0, BARS, 2, TOUCHED, 2, STRUCK, 2, TOUCHED, 2, BARS, 0, STRUCK, 0, TOUCHED, 0, STRUCK,
            0, TOUCHED, 2, STRUCK, 2, TOUCHED, 0, LEFT, 0, STRUCK);
        told(x, new int[] {0, -9, 6, 511, 0}, 2, STRUCK, 9, BARS);
        told(x, new int[] {1, -9, 6, 511, 6}, 2, STRUCK, 9, BARS, 2, STRUCK);
        told(x, new int[] {0, -9, 5, 511, 0}, 2, STRUCK, 5, BARS, 2, TOUCHED, 4, BARS);
        told(x, new int[] {1, -9, 6, 511, 6}, 2, STRUCK, 6, BARS, 2, STRUCK);
        told(x, new int[] {3, -9, 0, 511, 52}, 0, STRUCK, 1, STRUCK, 2, STRUCK);
        told(x, new int[] {1, -9, 9, 504, 22}, 1, STRUCK, 1, LEFT, 0, STRUCK, 9, BARS);
        told(x, new int[] {1, -9, 0, 448, 6}, 2, STRUCK, 0, LEFT, 0, LEFT);
        told(x, new int[] {0, -9, 0, 0, 0}, 2, LEFT, 1, LEFT, 0, LEFT);
        Due.due("nothing is changed", x.many(1), 3);
        Due.due("no BAR went by", x.many(2), 0);
        Due.due("none RINGS", x.many(3), 0);
    }

    private static void told(StruckThrees x, int[] due, int... pairs) {
        Due.row(x, 1, 2, pairs);
        int n = pairs.length / 2;
        for (int what = 0; what <= 4; what++) {
            Due.due("season of " + n + " pairs, " + what, x.season(1, 2, 0, n, what), due[what]);
        }
        Due.due("fault() of a season", x.fault(), 0);
    }

    private static void seasonsGoWrong() {
        StruckThrees x = Due.townOf("t;s3;w4;b5;s9;w9;b9");
        x.hang(3, 4, 5);
        x.hang(0, 1, 2);
        wrong(x, 0, 0, TOUCHED);
        wrong(x, 0, 2, STRUCK);
        wrong(x, 0, 2, TOUCHED);
        wrong(x, 0, 2, LEFT);
        wrong(x, 1, 0, STRUCK, 0, STRUCK);
        wrong(x, 2, 1, STRUCK, 9, BARS, 1, STRUCK);
        wrong(x, 4, 1, STRUCK, 9, BARS, 6, BARS, 1, STRUCK, 1, STRUCK);
        wrong(x, 2, 1, STRUCK, 1, LEFT, 1, TOUCHED);
        wrong(x, 2, 0, LEFT, 0, LEFT, 0, LEFT, 0, STRUCK);
        wrong(x, 3, 1, STRUCK, 9, BARS, 7, BARS, 1, TOUCHED);
    }

    private static void wrong(StruckThrees x, int first, int... pairs) {
        Due.row(x, 1, 0, pairs);
        for (int what = 0; what <= 4; what++) {
            String call = "season wrong at " + first + ", " + what;
            Due.due(call, x.season(1, 0, 0, pairs.length / 2, what), what == 1 ? first : -100 - first);
            Due.due("fault of " + call, x.fault(), 0);
        }
    }

    private static void seasonsBeginAsAllIsNow() {
        StruckThrees x = Due.townOf("t;s3;w4;b5;s9;w9;b9");
        x.hang(3, 4, 5);
        x.hang(0, 1, 2);
        x.strike(1);
        x.bars(11);
        Due.row(x, 2, 1, 99, 5, BARS, 0, STRUCK, 1, STRUCK);
        Due.due("begins RINGING", x.season(2, 1, 1, 0, 0), 1);
        Due.due("begins RINGING for", x.season(2, 1, 1, 0, 4), 4);
        Due.due("BARS in which it RANG", x.season(2, 1, 1, 1, 2), 4);
        Due.due("STRUCK behind them", x.season(2, 1, 1, 3, 4), 46);
        Due.due("all is as it was", x.ofThree(1, 5), 4);
        Due.due("none is STRUCK", x.many(3), 1);
        Due.due("which BAR", x.many(2), 11);
        StruckThrees y = Due.townOf("t;s3;w4;b5");
        Due.row(y, 0, 0, 3, BARS, 0, STRUCK);
        Due.due("a season without a THREE", y.season(0, 0, 0, 1, 2), 0);
        Due.due("who HANGS without a THREE", y.season(0, 0, 0, 1, 3), 0);
        Due.due("STRUCK without a THREE", y.season(0, 0, 0, 2, 0), -101);
    }

    private static void seasonsRefuseAndFault() {
        StruckThrees x = Due.townOf("t;s3;w4;b5;s9;w9;b9");
        x.hang(3, 4, 5);
        Due.row(x, 1, 1, 0, 0, 1, 2, 0, 1, 9, 2);
        int[][] calls = {
            {-1, 1, 0, 1, 0, -1, 0}, {4, 9, 9, 99, 9, -1, 0}, {1, -1, 0, 1, 0, -2, 0}, {1, 3, 0, 1, 0, -2, 0},
            {1, 1, 0, -1, 0, -2, 0}, {1, 1, 0, 21, 0, -2, 0}, {1, 1, 0, MAX, 0, -2, 0}, {1, 1, 0, MIN, 0, -2, 0},
            {1, 1, 0, 1, -1, -2, 0}, {1, 1, 0, 1, 5, -2, 0}, {1, 0, 99, 1, 9, -2, 0}, {3, 3, 0, 1, 0, -2, 0},
            {1, 0, 99, 1, 0, -12, 2}, {1, 2, 0, 1, 0, -12, 2}, {3, 0, 99, 1, 0, -11, 1}, {3, 2, 0, 0, 0, -11, 1},
            {1, 1, -1, 0, 0, -13, 3}, {1, 1, 9, 0, 0, -13, 3}, {1, 1, 0, 5, 0, -13, 3}, {1, 1, 1, 4, 0, -13, 3},
            {1, 1, 7, 1, 0, -13, 3}, {1, 1, MAX, 20, 0, -13, 3}, {1, 1, MIN, 20, 0, -13, 3},
            {1, 1, 8, 0, 0, 0, 0}, {1, 1, 0, 4, 0, 0, 0}, {1, 1, 2, 3, 1, 1, 0}
        };
        for (int[] c : calls) {
            x.put(3, 0, 0);
            String call = "season(" + c[0] + ", " + c[1] + ", " + c[2] + ", " + c[3] + ", " + c[4] + ")";
            Due.due(call, x.season(c[0], c[1], c[2], c[3], c[4]), c[5]);
            Due.due("fault() behind " + call, x.fault(), c[6]);
        }
        int[][] pairs = {{3, STRUCK}, {3, TOUCHED}, {3, LEFT}, {10, BARS}, {-1, STRUCK}, {-1, TOUCHED}, {-1, LEFT},
            {-1, BARS}, {0, 4}, {0, -1}, {0, MAX}, {0, MIN}, {MAX, BARS}, {MIN, LEFT}};
        for (int[] pair : pairs) {
            Due.row(x, 2, 2, 0, STRUCK, pair[0], pair[1]);
            Due.due("season with " + pair[0] + " and " + pair[1], x.season(2, 2, 0, 2, 1), -2);
            Due.due("season ahead of it", x.season(2, 2, 0, 1, 1), -9);
            Due.row(x, 2, 2, pair[0], pair[1], 0, STRUCK);
            Due.due("season that begins with " + pair[0] + " and " + pair[1], x.season(2, 2, 0, 2, 1), -2);
            // A pair that is not as told is refused, if an act ahead of it can't be, too.
            Due.row(x, 2, 2, 0, TOUCHED, pair[0], pair[1]);
            Due.due("season wrong ahead of " + pair[0] + " and " + pair[1], x.season(2, 2, 0, 2, 1), -2);
        }
        StruckThrees y = new StruckThrees();
        Due.due("season without a TOWN, NULL", y.season(0, 0, 0, 0, 0), -11);
        Due.row(y, 0, 0, 9, 9);
        Due.due("season without a TOWN, INDEX", y.season(0, 0, 0, 2, 0), -13);
        Due.due("season without a TOWN", y.season(0, 0, 0, 1, 0), -3);
        Due.due("its fault", y.fault(), 0);
    }
}
