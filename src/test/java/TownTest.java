/** Promises 1 to 4: a new object, town, ofPerson, bend. */
public final class TownTest {
    private static final int MIN = Integer.MIN_VALUE, MAX = Integer.MAX_VALUE;

    public static void main(String[] args) {
        aNewObjectHasNothing();
        textsAreTaken();
        textsEndTooSoon();
        textsGoWrong();
        aPartOfARowIsTaken();
        townRefusesAndFaults();
        aTextMakesAllAnew();
        aFaultyTextChangesNothing();
        peopleAreTold();
        peopleAreBent();
        Due.finish();
    }

    private static void aNewObjectHasNothing() {
        StruckThrees x = new StruckThrees();
        for (int what = 0; what <= 4; what++) Due.due("new many(" + what + ")", x.many(what), 0);
        Due.due("new trace", x.trace(), 0);
        Due.due("new fault", x.fault(), 0);
        Due.due("new ofPerson(0, 0)", x.ofPerson(0, 0), -1);
        Due.due("new bend(0, 1)", x.bend(0, 1), -1);
        Due.due("new hang", x.hang(0, 1, 2), -1);
        Due.due("new ofThree", x.ofThree(0, 0), -1);
        Due.due("new bars", x.bars(1), -3);
        Due.due("new most", x.most(-2), -3);
        Due.due("new pitched", x.pitched(3, -1), -3);
        Due.due("new rather", x.rather(), -3);
        Due.due("new odds", x.odds(-1, 0), StruckThrees.LOST);
        for (int k = 0; k < 4; k++) {
            Due.due("new lose", x.lose(k), 0);
            Due.due("new put", x.put(k, 0, 0), -11);
            Due.due("new cell", x.cell(k, 0, 0), StruckThrees.LOST);
            Due.due("new cell's fault", x.fault(), 1);
        }
        Due.due("LOST", StruckThrees.LOST, Long.MIN_VALUE);
    }

    private static void textsAreTaken() {
        String text = "t;s1;w2";
        for (int many = 3; many <= 9; many++) {
            text = text + ";" + "swb".charAt(many % 3) + many;
            for (int lane = 0; lane <= 2; lane++) {
                StruckThrees x = new StruckThrees();
                Due.text(x, 3, lane, text);
                Due.due("town of " + text, x.town(3, lane, 0, text.length()), many);
                Due.due("many(0) of it", x.many(0), many);
                Due.due("its fault", x.fault(), 0);
            }
        }
    }

    private static void textsEndTooSoon() {
        String text = "t;s3;w4;b5;s9";
        StruckThrees x = new StruckThrees();
        Due.text(x, 0, 0, text);
        for (int n = 0; n < text.length(); n++) {
            Due.due("town of the first " + n, x.town(0, 0, 0, n), n == 10 ? 3 : -100 - n);
        }
    }

    private static void textsGoWrong() {
        String[] texts = {
            "x;s3;w4;b5", "T;s3;w4;b5", ";s3;w4;b5", "tt", "ts3;w4;b5", "t;;3;w4;b5", "t;x3;w4;b5", "t;S3;w4;b5",
            "t;s0;w4;b5", "t;s:;w4;b5", "t;ss;w4;b5", "t;s33;w4;b5", "t;s3,w4;b5", "t;s3;t4;b5", "t;s3;w4;b5t",
            "t;s1;s1;s1;s1;s1;s1;s1;s1;s1;s1", "t;s1;s1;s1;s1;s1;s1;s1;s1;s1;", "t;s1;s1;s1;s1;s1;s1;s1;s1;s1x"
        };
        int[] places = {0, 0, 0, 1, 1, 2, 2, 2, 3, 3, 3, 4, 4, 5, 10, 28, 28, 28};
        for (int k = 0; k < texts.length; k++) {
            StruckThrees x = new StruckThrees();
            Due.due("town of " + texts[k], Due.settle(x, texts[k]), -100 - places[k]);
            Due.due("many(0) behind it", x.many(0), 0);
            Due.due("fault() behind it", x.fault(), 0);
        }
        StruckThrees x = new StruckThrees();
        // An int that would be a t, were it cut to a byte.
        Due.row(x, 1, 2, 116 + 256, 59);
        Due.due("town of a great code", x.town(1, 2, 0, 2), -100);
    }

    private static void aPartOfARowIsTaken() {
        StruckThrees x = new StruckThrees();
        Due.text(x, 2, 1, "xxt;s3;w4;b5;s6yy");
        Due.due("town from 2 on, four", x.town(2, 1, 2, 13), 4);
        Due.due("town from 2 on, three", x.town(2, 1, 2, 10), 3);
        Due.due("SIDE of the last", x.ofPerson(2, 1), 5);
        Due.due("town from 1 on", x.town(2, 1, 1, 10), -100);
        Due.due("town to the end", x.town(2, 1, 2, 15), -113);
    }

    private static void townRefusesAndFaults() {
        StruckThrees x = new StruckThrees();
        Due.text(x, 0, 1, "t;s3;w4;b5");
        int[][] calls = {
            {-1, 1, 0, 10, -1, 0}, {4, 1, 0, 10, -1, 0}, {MIN, 9, -1, -1, -1, 0}, {MAX, 1, 0, 10, -1, 0},
            {0, -1, 0, 10, -2, 0}, {0, 3, 0, 10, -2, 0}, {0, MAX, 0, -1, -2, 0},
            {0, 0, 0, 10, -12, 2}, {0, 2, 99, -1, -12, 2}, {1, 0, 99, -1, -11, 1}, {1, 2, 0, 0, -11, 1},
            {0, 1, 0, -1, -14, 4}, {0, 1, 99, MIN, -14, 4},
            {0, 1, -1, 0, -13, 3}, {0, 1, 11, 0, -13, 3}, {0, 1, 1, 10, -13, 3}, {0, 1, 0, 11, -13, 3},
            {0, 1, MAX, MAX, -13, 3}, {0, 1, MIN, MAX, -13, 3}, {0, 1, 5, MAX, -13, 3}, {0, 1, 0, MAX, -13, 3},
            {0, 1, 10, 0, -100, 0}, {0, 1, 0, 0, -100, 0}, {0, 1, 0, 10, 3, 0}
        };
        for (int[] c : calls) {
            x.put(1, 0, 0);
            String call = "town(" + c[0] + ", " + c[1] + ", " + c[2] + ", " + c[3] + ")";
            Due.due(call, x.town(c[0], c[1], c[2], c[3]), c[4]);
            Due.due("fault() behind " + call, x.fault(), c[5]);
        }
    }

    private static void aTextMakesAllAnew() {
        StruckThrees x = Due.townOf("t;s3;w4;b5;s5;s5;s5");
        x.hang(0, 1, 2);
        x.strike(0);
        x.bars(3);
        x.reading(0, 3);
        x.tell(0);
        Due.due("most ahead of it", x.most(-2), 2);
        Due.due("town anew", Due.settle(x, "t;b9;b9;s9"), 3);
        Due.due("PEOPLE anew", x.many(0), 3);
        for (int what = 1; what <= 4; what++) Due.due("many anew " + what, x.many(what), 0);
        Due.due("kind anew", x.ofPerson(0, 0), 2);
        Due.due("SIDE anew", x.ofPerson(1, 1), 9);
        Due.due("THREE anew", x.ofPerson(0, 3), -9);
        Due.due("nobody any more", x.ofPerson(3, 0), -1);
        Due.due("most anew", x.most(-1), 45);
        Due.due("trace goes on", x.trace(), 1);
        Due.due("hang anew", x.hang(0, 1, 2), 0);
        Due.due("does not RING", x.ofThree(0, 5), 0);
    }

    private static void aFaultyTextChangesNothing() {
        StruckThrees x = Due.townOf("t;s3;w4;b5;s5");
        x.hang(0, 1, 2);
        x.strike(0);
        x.bars(3);
        x.reading(0, 3);
        Due.due("faulty town", Due.settle(x, "t;s3;w4;b"), -109);
        int[] many = {4, 1, 3, 1, 1};
        for (int what = 0; what <= 4; what++) Due.due("many unchanged " + what, x.many(what), many[what]);
        Due.due("RINGS yet", x.ofThree(0, 5), 12);
    }

    private static void peopleAreTold() {
        StruckThrees x = Due.townOf("t;s1;w1;b1;s9;w9;b9;w6;s7;b4");
        int[] kinds = {0, 1, 2, 0, 1, 2, 1, 0, 2};
        int[] sides = {1, 1, 1, 9, 9, 9, 6, 7, 4};
        int[] rings = {1, 0, 2, 9, 4, 18, 3, 7, 8};
        for (int p = 0; p < 9; p++) {
            Due.due("kind of " + p, x.ofPerson(p, 0), kinds[p]);
            Due.due("SIDE of " + p, x.ofPerson(p, 1), sides[p]);
            Due.due("RING of " + p, x.ofPerson(p, 2), rings[p]);
            Due.due("THREE of " + p, x.ofPerson(p, 3), -9);
            Due.due("JOY of " + p, x.ofPerson(p, 4), 0);
            Due.due("ofPerson -1", x.ofPerson(p, -1), -2);
            Due.due("ofPerson 5", x.ofPerson(p, 5), -2);
        }
        Due.due("ofPerson(9, 0)", x.ofPerson(9, 0), -1);
        Due.due("ofPerson(9, 7)", x.ofPerson(9, 7), -1);
        Due.due("ofPerson(-1, 0)", x.ofPerson(-1, 0), -1);
        Due.due("ofPerson(MIN, 0)", x.ofPerson(MIN, 0), -1);
        Due.due("ofPerson(0, MAX)", x.ofPerson(0, MAX), -2);
        Due.due("hang", x.hang(3, 4, 5), 0);
        Due.due("hang", x.hang(8, 6, 7), 1);
        for (int p = 3; p < 9; p++) {
            Due.due("THREE then of " + p, x.ofPerson(p, 3), p < 6 ? 0 : 1);
            Due.due("JOY then of " + p, x.ofPerson(p, 4), p < 6 ? 31 : 18);
        }
        Due.due("JOY of who does not hang", x.ofPerson(2, 4), 0);
    }

    private static void peopleAreBent() {
        StruckThrees x = Due.townOf("t;s3;w4;b5;s8");
        Due.due("bend", x.bend(1, 9), 4);
        Due.due("SIDE bent", x.ofPerson(1, 1), 9);
        Due.due("RING bent", x.ofPerson(1, 2), 4);
        Due.due("bend to 1", x.bend(1, 1), 9);
        Due.due("RING of 1", x.ofPerson(1, 2), 0);
        Due.due("bend to 4", x.bend(1, 4), 1);
        Due.due("bend(-1, 1)", x.bend(-1, 1), -1);
        Due.due("bend(4, 0)", x.bend(4, 0), -1);
        Due.due("bend to 0", x.bend(0, 0), -2);
        Due.due("bend to 10", x.bend(0, 10), -2);
        Due.due("bend to MIN", x.bend(0, MIN), -2);
        x.hang(0, 1, 2);
        Due.due("bend who hangs", x.bend(0, 4), -3);
        Due.due("bend who hangs to 0", x.bend(0, 0), -2);
        Due.due("SIDE as it was", x.ofPerson(0, 1), 3);
        Due.due("bend who does not hang", x.bend(3, 2), 8);
        x.leave(0);
        Due.due("bend who hung", x.bend(0, 4), 3);
    }
}
