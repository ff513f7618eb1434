/** Promises 21 to 31: sheet, lose, put, cell, copy, tell, count, as, trace, fault, many. */
public final class SheetsTest {
    private static final int MIN = Integer.MIN_VALUE, MAX = Integer.MAX_VALUE;
    private static final long LOST = StruckThrees.LOST;

    public static void main(String[] args) {
        sheetsGetRows();
        sheetsRefuse();
        sheetsAreLost();
        cellsAreCut();
        putsFault();
        cellsFault();
        cellsAreCopied();
        copiesFault();
        peopleTell();
        peopleAreCounted();
        traceWraps();
        peopleAreTakenAs();
        faultIsOfTheLatestThatNamesOne();
        refusalsLeaveFaultAtNone();
        howMany();
        Due.finish();
    }

    private static void sheetsGetRows() {
        for (int k = 0; k < 4; k++) {
            for (int lane = 0; lane < 3; lane++) {
                // An object of its own, as one is used for at most 512 calls.
                StruckThrees x = new StruckThrees();
                for (int n : new int[] {0, 1, 59, 60, 7}) {
                    Due.due("sheet(" + k + ", " + lane + ", " + n + ")", x.sheet(k, lane, n), 1);
                    for (int i = 0; i < n; i++) {
                        Due.due("0 at first", x.cell(k, i, lane), 0);
                        x.put(k, i, i + 1);
                    }
                    Due.due("behind the last", x.cell(k, n, lane), LOST);
                    Due.due("INDEX", x.fault(), 3);
                }
            }
        }
        StruckThrees x = new StruckThrees();
        Due.row(x, 0, 2, 1, 2, 3);
        Due.row(x, 1, 2, 7, 7, 7);
        Due.due("another row", x.sheet(0, 0, 3), 1);
        Due.due("other SHEETS as they were", x.cell(1, 2, 2), 7);
        Due.due("of it nothing is left", x.cell(0, 2, 0), 0);
    }

    private static void sheetsRefuse() {
        StruckThrees x = new StruckThrees();
        Due.row(x, 1, 0, 5);
        int[][] calls = {
            {-1, 0, 1, -1, 0}, {4, 0, 1, -1, 0}, {MIN, 9, -1, -1, 0}, {MAX, 0, 0, -1, 0},
            {1, -1, 1, -2, 0}, {1, 3, -1, -2, 0}, {1, 0, 61, -2, 0}, {1, 2, MAX, -2, 0}, {1, MIN, 61, -2, 0},
            {1, 0, -1, -14, 4}, {1, 2, MIN, -14, 4}
        };
        for (int[] c : calls) {
            x.put(3, 0, 0);
            String call = "sheet(" + c[0] + ", " + c[1] + ", " + c[2] + ")";
            Due.due(call, x.sheet(c[0], c[1], c[2]), c[3]);
            Due.due("fault() behind " + call, x.fault(), c[4]);
            Due.due("nothing is changed", x.cell(1, 0, 0), 5);
        }
    }

    private static void sheetsAreLost() {
        StruckThrees x = new StruckThrees();
        Due.due("lose nothing", x.lose(2), 0);
        Due.row(x, 2, 1, 7);
        Due.row(x, 3, 1);
        Due.due("lose a row", x.lose(2), 1);
        Due.due("lose it again", x.lose(2), 0);
        Due.due("it has nothing", x.put(2, 0, 1), -11);
        Due.due("lose a row of 0", x.lose(3), 1);
        Due.due("lose(-1)", x.lose(-1), -1);
        Due.due("lose(4)", x.lose(4), -1);
        Due.due("lose(MIN)", x.lose(MIN), -1);
        Due.due("it leaves fault() as it was", x.fault(), 1);
        x.sheet(2, 1, 1);
        Due.due("a new row is of 0", x.cell(2, 0, 1), 0);
    }

    private static void cellsAreCut() {
        StruckThrees x = new StruckThrees();
        int[] numbers = {0, 1, -1, 127, 128, -128, -129, 255, 256, 32767, 32768, -32768, -32769, 65535, 65536, MAX, MIN};
        for (int v : numbers) {
            Due.row(x, 0, 0, 1, v, 1);
            Due.row(x, 1, 1, 1, v, 1);
            Due.row(x, 2, 2, 1, v, 1);
            Due.due("byte of " + v, x.cell(0, 1, 0), (byte) v);
            Due.due("short of " + v, x.cell(1, 1, 1), (short) v);
            Due.due("int of " + v, x.cell(2, 1, 2), v);
            Due.due("the one ahead", x.cell(0, 0, 0), 1);
            Due.due("the one behind", x.cell(0, 2, 0), 1);
        }
    }

    private static void putsFault() {
        StruckThrees x = new StruckThrees();
        Due.row(x, 0, 0, 4, 5);
        Due.row(x, 1, 0);
        int[][] calls = {
            {-1, 0, -1, 0}, {4, 9, -1, 0}, {MAX, 0, -1, 0}, {2, 0, -11, 1}, {2, -1, -11, 1}, {0, -1, -13, 3},
            {0, 2, -13, 3}, {0, MAX, -13, 3}, {0, MIN, -13, 3}, {1, 0, -13, 3}, {0, 1, 1, 0}
        };
        for (int[] c : calls) {
            x.put(3, 0, 0);
            Due.due("put(" + c[0] + ", " + c[1] + ")", x.put(c[0], c[1], 9), c[2]);
            Due.due("fault() behind it", x.fault(), c[3]);
        }
        Due.due("as it was", x.cell(0, 0, 0), 4);
        Due.due("as it is", x.cell(0, 1, 0), 9);
    }

    private static void cellsFault() {
        StruckThrees x = new StruckThrees();
        Due.row(x, 0, 1, 4, 5);
        int[][] lost = {
            {-1, 0, 1, 0}, {4, 0, 1, 0}, {MIN, 0, 9, 0}, {0, 0, -1, 0}, {0, 0, 3, 0}, {2, 0, 3, 0}, {0, 9, MAX, 0},
            {0, 0, 0, 2}, {0, 9, 2, 2}, {2, 0, 0, 1}, {2, -1, 2, 1}, {0, -1, 1, 3}, {0, 2, 1, 3}, {0, MAX, 1, 3}, {0, MIN, 1, 3}
        };
        for (int[] c : lost) {
            x.put(3, 0, 0);
            Due.due("cell(" + c[0] + ", " + c[1] + ", " + c[2] + ")", x.cell(c[0], c[1], c[2]), LOST);
            Due.due("fault() behind it", x.fault(), c[3]);
        }
        Due.due("cell(0, 1, 1)", x.cell(0, 1, 1), 5);
        Due.due("no fault", x.fault(), 0);
    }

    private static void cellsAreCopied() {
        StruckThrees x = new StruckThrees();
        Due.row(x, 0, 1, 1, 2, 3, 4, 5);
        Due.row(x, 1, 1, 9, 9, 9);
        x.put(3, 0, 0);
        Due.due("copy", x.copy(0, 3, 1, 0, 2), 2);
        Due.due("its fault", x.fault(), 0);
        row(x, 1, 1, 4, 5, 9);
        row(x, 0, 1, 1, 2, 3, 4, 5);
        Due.due("copy onto the same, behind", x.copy(0, 0, 0, 1, 4), 4);
        row(x, 0, 1, 1, 1, 2, 3, 4);
        Due.due("copy onto the same, ahead", x.copy(0, 1, 0, 0, 4), 4);
        row(x, 0, 1, 1, 2, 3, 4, 4);
        Due.due("copy onto itself", x.copy(0, 0, 0, 0, 5), 5);
        row(x, 0, 1, 1, 2, 3, 4, 4);
        Due.due("copy none", x.copy(0, 0, 1, 0, 0), 0);
        Due.due("copy none at the ends", x.copy(0, 5, 1, 3, 0), 0);
        row(x, 1, 1, 4, 5, 9);
    }

    private static void row(StruckThrees x, int k, int lane, int... numbers) {
        for (int i = 0; i < numbers.length; i++) Due.due("cell " + i, x.cell(k, i, lane), numbers[i]);
    }

    private static void copiesFault() {
        StruckThrees x = new StruckThrees();
        Due.row(x, 0, 1, 1, 2, 3);
        Due.row(x, 1, 1, 9, 9);
        Due.row(x, 2, 2, 7, 7);
        int[][] calls = {
            {-1, 0, 1, 0, 1, -1, 0}, {4, 0, 1, 0, 1, -1, 0}, {0, 0, -1, 0, 1, -1, 0}, {0, 0, 4, 0, 1, -1, 0},
            {3, 0, 4, 0, 1, -1, 0}, {MAX, 0, 3, 0, 1, -1, 0},
            {3, 0, 0, 0, 0, -11, 1}, {0, 0, 3, 0, 0, -11, 1}, {3, 9, 3, 9, -1, -11, 1}, {2, -1, 3, 0, 1, -11, 1},
            {0, 0, 2, 0, 0, -12, 2}, {2, 9, 1, 9, -1, -12, 2},
            {0, -1, 1, 0, 1, -13, 3}, {0, 0, 1, -1, 1, -13, 3}, {0, 0, 1, 0, -1, -13, 3}, {0, 0, 1, 0, MIN, -13, 3},
            {0, 4, 1, 0, 0, -13, 3}, {0, 0, 1, 3, 0, -13, 3}, {0, 2, 1, 0, 2, -13, 3}, {0, 0, 1, 1, 2, -13, 3},
            {0, 0, 1, 0, 3, -13, 3}, {0, MAX, 1, 0, MAX, -13, 3}, {0, 1, 1, MAX, MAX, -13, 3}, {0, 1, 0, 1, MAX, -13, 3},
            {0, MIN, 1, MIN, 0, -13, 3}
        };
        for (int[] c : calls) {
            x.sheet(0, 0, 99);
            String call = "copy(" + c[0] + ", " + c[1] + ", " + c[2] + ", " + c[3] + ", " + c[4] + ")";
            Due.due(call, x.copy(c[0], c[1], c[2], c[3], c[4]), c[5]);
            Due.due("fault() behind " + call, x.fault(), c[6]);
        }
        row(x, 0, 1, 1, 2, 3);
        row(x, 1, 1, 9, 9);
        row(x, 2, 2, 7, 7);
    }

    private static void peopleTell() {
        StruckThrees x = Due.townOf("t;s3;w4;b5;s9;w9;b9");
        int[] due = {3, 104, 110, 9, 109, 118};
        for (int p = 0; p < 6; p++) Due.due("tell(" + p + ")", x.tell(p), due[p]);
        Due.due("tell(-1)", x.tell(-1), -1);
        Due.due("tell(6)", x.tell(6), -1);
        Due.due("tell(MAX)", x.tell(MAX), -1);
        x.bend(2, 1);
        Due.due("tell who is bent", x.tell(2), 102);
        trace("t;s3;w4;b5", 0, false, 1);
        trace("t;s3;w4;b5", 1, false, 2, 1);
        trace("t;s3;w4;b5", 2, false, 3, 2, 1, 1);
    }

    private static void peopleAreCounted() {
        StruckThrees x = Due.townOf("t;s3;w4;b5;s9;w9;b9");
        int[] due = {0, 1, 30, 3, 4, 30};
        for (int p = 0; p < 6; p++) Due.due("count(" + p + ")", x.count(p), due[p]);
        Due.due("count(-1)", x.count(-1), -1);
        Due.due("count(6)", x.count(6), -1);
        Due.due("count(MIN)", x.count(MIN), -1);
        trace("t;s3;w4;b5", 0, true, 4);
        trace("t;s3;w4;b5", 1, true, 4);
        trace("t;s3;w4;b5", 2, true, 5);
    }

    /** What one call on a new town leaves in TRACE. */
    private static void trace(String text, int p, boolean counted, int... bodies) {
        StruckThrees x = Due.townOf(text);
        if (counted) x.count(p); else x.tell(p);
        int due = 0;
        for (int body : bodies) due = 31 * due + body;
        Due.due("trace() of " + p, x.trace(), due);
        x.tell(-1);
        x.count(9);
        Due.due("trace() of nobody", x.trace(), due);
    }

    private static void traceWraps() {
        StruckThrees x = Due.townOf("t;s3;w4;b5");
        int due = 0;
        for (int k = 0; k < 50; k++) {
            x.tell(2);
            for (int body : new int[] {3, 2, 1, 1}) due = 31 * due + body;
            Due.due("trace() that wraps", x.trace(), due);
        }
    }

    private static void peopleAreTakenAs() {
        StruckThrees x = Due.townOf("t;s3;w4;b5");
        for (int p = 0; p < 3; p++) {
            for (int kind = 0; kind < 3; kind++) {
                Due.due("as(" + p + ", " + kind + ")", x.as(p, kind), kind <= p ? 1 : -12);
                Due.due("fault() behind it", x.fault(), kind <= p ? 0 : 2);
            }
            x.put(3, 0, 0);
            Due.due("as -1", x.as(p, -1), -2);
            Due.due("fault() of -1", x.fault(), 0);
            Due.due("as 3", x.as(p, 3), -2);
        }
        x.put(3, 0, 0);
        Due.due("as(3, 9)", x.as(3, 9), -1);
        Due.due("fault() of nobody", x.fault(), 0);
        Due.due("as(-1, 0)", x.as(-1, 0), -1);
        Due.due("no trace", x.trace(), 0);
    }

    /** Calls that name no fault leave it as it is, what they answer. */
    private static void faultIsOfTheLatestThatNamesOne() {
        StruckThrees x = Due.townOf("t;s3;w4;b5;s5;s5;s5");
        x.cell(0, 0, 2);
        Due.due("CAST", x.fault(), 2);
        x.ofPerson(9, 9);
        x.bend(0, 3);
        x.hang(0, 1, 2);
        x.ofThree(0, 1);
        x.strike(0);
        x.touch(0);
        x.bars(1);
        x.leave(0);
        x.pitched(3, 0);
        x.most(0);
        x.rather();
        x.reading(0, 3);
        x.back(1);
        x.sides(0);
        x.kinds(0);
        x.odds(-1, 0);
        x.lose(3);
        x.tell(0);
        x.count(0);
        x.trace();
        x.many(0);
        Due.due("CAST yet", x.fault(), 2);
        Due.due("CAST told twice", x.fault(), 2);
        x.put(0, 0, 0);
        Due.due("none", x.fault(), 0);
    }

    private static void refusalsLeaveFaultAtNone() {
        StruckThrees x = Due.townOf("t;s3;w4;b5");
        for (int call = 0; call < 8; call++) {
            x.put(3, 0, 0);
            Due.due("NULL ahead", x.fault(), 1);
            int got;
            switch (call) {
                case 0: got = x.town(4, 0, 0, 0); break;
                case 1: got = x.season(4, 0, 0, 0, 0); break;
                case 2: got = x.together(4, 0, 0); break;
                case 3: got = x.sheet(4, 0, 0); break;
                case 4: got = x.put(4, 0, 0); break;
                case 5: got = x.cell(4, 0, 0) == LOST ? -1 : 0; break;
                case 6: got = x.copy(4, 0, 0, 0, 0); break;
                default: got = x.as(4, 0);
            }
            Due.due("refused " + call, got, -1);
            Due.due("fault() of what is refused " + call, x.fault(), 0);
        }
        x.put(3, 0, 0);
        x.sheet(3, 0, 4);
        Due.due("fault() of a sheet", x.fault(), 0);
    }

    private static void howMany() {
        StruckThrees x = Due.townOf("t;s3;w4;b5;s9;w9;b9;s1");
        x.hang(0, 1, 2);
        x.hang(3, 4, 5);
        x.strike(1);
        x.bars(9);
        x.reading(6, 1);
        x.reading(6, 2);
        x.reading(6, 3);
        int[] due = {7, 2, 9, 1, 3};
        for (int what = 0; what <= 4; what++) Due.due("many(" + what + ")", x.many(what), due[what]);
        for (int what : new int[] {-1, 5, MIN, MAX}) Due.due("many(" + what + ")", x.many(what), -2);
    }
}
