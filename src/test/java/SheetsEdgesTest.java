/** Part 5 and promises 21 to 31: each sentence that names a boundary case, by itself. */
public final class SheetsEdgesTest {
    private static final int MIN = Integer.MIN_VALUE, MAX = Integer.MAX_VALUE;
    private static final long LOST = StruckThrees.LOST;

    public static void main(String[] args) {
        sheets0To3();
        lanes0To2();
        rowsOf0To60Numbers();
        aLengthBelow0();
        aNewRowIsOf0();
        nothingAgain();
        eachCellOfARow();
        rowsOfNoNumbers();
        whatIsCutToItsLane();
        cellsTakenAsARowOfALane();
        copiesUpToBothEnds();
        noCellsAreCopiedAtTheEnds();
        cellsGoAsTheyWere();
        unlikeLanes();
        nothingToCopyFromOrTo();
        indexesThatWrap();
        tellingByKinds();
        countedByKinds();
        traceOfEachBody();
        traceWraps();
        whoIsAsWhat();
        faultAheadOfAny();
        faultOfTheLatestThatNamesOne();
        refusedIsNoFault();
        manyFrom0To4();
        Due.finish();
    }

    /** 'SHEETS 0 .. 3': each has its own row; there is none at -1 and at 4. */
    private static void sheets0To3() {
        StruckThrees x = new StruckThrees();
        for (int k = -2; k <= 6; k++) {
            boolean is = k >= 0 && k <= 3;
            Due.due("sheet(" + k + ")", x.sheet(k, 2, 2), is ? 1 : -1);
            Due.due("put of " + k, x.put(k, 1, 10 + k), is ? 1 : -1);
        }
        for (int k = -2; k <= 6; k++) {
            boolean is = k >= 0 && k <= 3;
            Due.due("cell of " + k, x.cell(k, 1, 2), is ? 10 + k : LOST);
            Due.due("fault() of " + k, x.fault(), 0);
        }
        for (int k = -2; k <= 6; k++) Due.due("lose(" + k + ")", x.lose(k), k >= 0 && k <= 3 ? 1 : -1);
        for (int k = -2; k <= 6; k++) Due.due("lose(" + k + ") again", x.lose(k), k >= 0 && k <= 3 ? 0 : -1);
    }

    /** 'of a LANE: 0 bytes, 1 shorts, 2 ints'; promise 21: 'OUTSIDE: lane'. */
    private static void lanes0To2() {
        for (int lane = -2; lane <= 5; lane++) {
            StruckThrees x = new StruckThrees();
            boolean is = lane >= 0 && lane <= 2;
            Due.due("sheet of lane " + lane, x.sheet(1, lane, 1), is ? 1 : -2);
            Due.due("lose it", x.lose(1), is ? 1 : 0);
            x.sheet(1, 1, 1);
            Due.due("cell as lane " + lane, x.cell(1, 0, lane), lane == 1 ? 0 : LOST);
            Due.due("fault() of it", x.fault(), lane == 1 || !is ? 0 : 2);
        }
    }

    /** 'a row of 0 .. 60 numbers'; promise 21: 'OUTSIDE: .. n above 60'. */
    private static void rowsOf0To60Numbers() {
        for (int n = 0; n <= 64; n++) {
            StruckThrees x = new StruckThrees();
            boolean taken = n <= 60;
            Due.due("sheet of " + n, x.sheet(2, 0, n), taken ? 1 : -2);
            Due.due("fault() of it", x.fault(), 0);
            if (!taken) {
                Due.due("it has nothing", x.lose(2), 0);
                continue;
            }
            for (int i = 0; i < n; i++) Due.due("put " + i + " of " + n, x.put(2, i, i + 1), 1);
            Due.due("put -1 of " + n, x.put(2, -1, 9), -13);
            Due.due("put behind " + n, x.put(2, n, 9), -13);
            for (int i = 0; i < n; i++) Due.due("cell " + i + " of " + n, x.cell(2, i, 0), i + 1);
            Due.due("cell -1 of " + n, x.cell(2, -1, 0), LOST);
            Due.due("cell behind " + n, x.cell(2, n, 0), LOST);
            Due.due("fault() behind " + n, x.fault(), 3);
        }
        StruckThrees x = new StruckThrees();
        Due.due("sheet of MAX", x.sheet(2, 0, MAX), -2);
    }

    /** '4 SIZE (a length below 0)'; promise 21: OUTSIDE is told ahead of it. */
    private static void aLengthBelow0() {
        for (int n : new int[] {-1, -2, -60, -61, MIN}) {
            StruckThrees x = new StruckThrees();
            Due.row(x, 2, 1, 7, 8);
            Due.due("sheet of " + n, x.sheet(2, 1, n), -14);
            Due.due("fault() of it", x.fault(), 4);
            Due.due("sheet of " + n + ", no lane", x.sheet(2, 3, n), -2);
            Due.due("fault() of it", x.fault(), 0);
            Due.due("sheet of " + n + ", no SHEET", x.sheet(4, 0, n), -1);
            Due.due("as it was", x.cell(2, 1, 1), 8);
            Due.due("as long as it was", x.put(2, 2, 0), -13);
        }
    }

    /** '(0 at first)'; promise 21: 'A SHEET gets a new row': of what was there nothing is left, not even behind the end. */
    private static void aNewRowIsOf0() {
        for (int lane = 0; lane < 3; lane++) {
            StruckThrees x = new StruckThrees();
            x.sheet(0, lane, 60);
            for (int i = 0; i < 60; i++) x.put(0, i, 9);
            Due.due("a shorter one", x.sheet(0, lane, 5), 1);
            for (int i = 0; i < 5; i++) Due.due("cell " + i, x.cell(0, i, lane), 0);
            Due.due("there is no more", x.cell(0, 5, lane), LOST);
            Due.due("a longer one", x.sheet(0, (lane + 1) % 3, 60), 1);
            for (int i = 0; i < 60; i++) Due.due("cell " + i + " of the longer one", x.cell(0, i, (lane + 1) % 3), 0);
            Due.due("it is of another LANE", x.cell(0, 0, lane), LOST);
            Due.due("CAST", x.fault(), 2);
        }
    }

    /** Promise 22: 'A SHEET has nothing: 1; 0: it had nothing.' */
    private static void nothingAgain() {
        for (int n : new int[] {0, 1, 60}) {
            StruckThrees x = new StruckThrees();
            Due.due("lose at first", x.lose(3), 0);
            x.sheet(3, 2, n);
            x.put(3, 0, 5);
            Due.due("lose a row of " + n, x.lose(3), 1);
            Due.due("put then", x.put(3, 0, 5), -11);
            Due.due("cell then", x.cell(3, 0, 2), LOST);
            Due.due("NULL", x.fault(), 1);
            Due.due("lose again", x.lose(3), 0);
            Due.due("it names no FAULT", x.fault(), 1);
            x.sheet(3, 2, n);
            if (n > 0) Due.due("anew it is 0", x.cell(3, 0, 2), 0);
        }
    }

    /** Promise 23: 'Cell i of a SHEET becomes v': that one alone. */
    private static void eachCellOfARow() {
        for (int at = -1; at <= 4; at++) {
            StruckThrees x = new StruckThrees();
            Due.row(x, 1, 2, 10, 20, 30, 40);
            Due.row(x, 2, 2, 10, 20, 30, 40);
            boolean there = at >= 0 && at < 4;
            Due.due("put " + at, x.put(1, at, -5), there ? 1 : -13);
            Due.due("fault() of it", x.fault(), there ? 0 : 3);
            for (int i = 0; i < 4; i++) Due.due("cell " + i, x.cell(1, i, 2), i == at ? -5 : 10 * (i + 1));
            for (int i = 0; i < 4; i++) Due.due("cell of the other", x.cell(2, i, 2), 10 * (i + 1));
        }
    }

    /** 'a row of 0 ..': it is there, and has no cell. */
    private static void rowsOfNoNumbers() {
        for (int lane = 0; lane < 3; lane++) {
            StruckThrees x = Due.townOf("t;s3;w4;b5");
            x.hang(0, 1, 2);
            Due.due("a row of 0", x.sheet(1, lane, 0), 1);
            Due.due("put", x.put(1, 0, 0), -13);
            Due.due("cell", x.cell(1, 0, lane), LOST);
            Due.due("its fault", x.fault(), 3);
            Due.due("cell as another", x.cell(1, 0, (lane + 1) % 3), LOST);
            Due.due("its fault", x.fault(), 2);
            Due.due("town", x.town(1, lane, 0, 0), -100);
            Due.due("season", x.season(1, lane, 0, 0, 1), -9);
            Due.due("together", x.together(1, lane, 0), -13);
            Due.due("copy", x.copy(1, 0, 1, 0, 0), 0);
            Due.due("copy of one", x.copy(1, 0, 1, 0, 1), -13);
            Due.due("lose", x.lose(1), 1);
        }
    }

    /** 'what comes to a cell of it is cut to its LANE': the last that is as it was, and the first that is not. */
    private static void whatIsCutToItsLane() {
        int[] numbers = {127, 128, -128, -129, 255, 256, -255, 32767, 32768, -32768, -32769, 65535, 65536, MAX, MIN};
        int[] bytes = {127, -128, -128, 127, -1, 0, 1, -1, 0, 0, -1, -1, 0, -1, 0};
        int[] shorts = {127, 128, -128, -129, 255, 256, -255, 32767, -32768, -32768, 32767, -1, 0, -1, 0};
        for (int k = 0; k < numbers.length; k++) {
            StruckThrees x = new StruckThrees();
            int[] dues = {bytes[k], shorts[k], numbers[k]};
            for (int lane = 0; lane < 3; lane++) {
                Due.row(x, lane, lane, numbers[k]);
                Due.due(numbers[k] + " in lane " + lane, x.cell(lane, 0, lane), dues[lane]);
            }
        }
    }

    /** Promise 24: 'Cell i of what a SHEET has, taken as a row of a LANE .. CAST (nothing is no CAST), NULL, INDEX.' */
    private static void cellsTakenAsARowOfALane() {
        for (int lane = 0; lane < 3; lane++) {
            StruckThrees x = new StruckThrees();
            Due.row(x, 1, lane, 5);
            for (int as = 0; as < 3; as++) {
                for (int i = -1; i <= 1; i++) {
                    Due.due("cell " + i + " of " + lane + " as " + as, x.cell(1, i, as), as == lane && i == 0 ? 5 : LOST);
                    Due.due("its fault", x.fault(), as != lane ? 2 : i != 0 ? 3 : 0);
                    Due.due("of nothing", x.cell(2, i, as), LOST);
                    Due.due("its fault", x.fault(), 1);
                }
            }
            // LOST tells a FAULT, and fault() that it was none: the least int is an answer.
            Due.row(x, 3, 2, MIN, MAX);
            Due.due("the least int", x.cell(3, 0, 2), MIN);
            Due.due("the greatest int", x.cell(3, 1, 2), MAX);
            Due.due("no fault", x.fault(), 0);
        }
    }

    /** Promise 25: 'INDEX: i, j, n below 0 or beyond': of rows of 3 and 2, all that is about their ends. */
    private static void copiesUpToBothEnds() {
        for (int i = -1; i <= 4; i++) {
            for (int j = -1; j <= 3; j++) {
                StruckThrees x = new StruckThrees();
                Due.row(x, 0, 1, 1, 2, 3);
                Due.row(x, 2, 1, 8, 9);
                for (int n = -2; n <= 4; n++) {
                    boolean there = i >= 0 && j >= 0 && n >= 0 && i + n <= 3 && j + n <= 2;
                    Due.due("copy(0, " + i + ", 2, " + j + ", " + n + ")", x.copy(0, i, 2, j, n), there ? n : -13);
                    Due.due("its fault", x.fault(), there ? 0 : 3);
                    for (int c = 0; c < 2; c++) {
                        int due = there && c >= j && c < j + n ? 1 + i + c - j : 8 + c;
                        Due.due("cell " + c + " then", x.cell(2, c, 1), due);
                        x.put(2, c, 8 + c);
                    }
                    for (int c = 0; c < 3; c++) Due.due("cell " + c + " of the first", x.cell(0, c, 1), 1 + c);
                }
            }
        }
    }

    /** '3 INDEX (of cells from i on also where i is not 0 .. how many there are, if none of them is taken, too)'. */
    private static void noCellsAreCopiedAtTheEnds() {
        StruckThrees x = new StruckThrees();
        Due.row(x, 0, 1, 1, 2, 3);
        Due.row(x, 2, 1, 8, 9);
        Due.due("none from the end on", x.copy(0, 3, 2, 2, 0), 0);
        Due.due("none from behind the first's end on", x.copy(0, 4, 2, 2, 0), -13);
        Due.due("none to behind the other's end", x.copy(0, 3, 2, 3, 0), -13);
        Due.due("none from -1 on", x.copy(0, -1, 2, 0, 0), -13);
        Due.due("none to -1", x.copy(0, 0, 2, -1, 0), -13);
        StruckThrees whole = new StruckThrees();
        whole.sheet(0, 0, 60);
        whole.sheet(1, 0, 60);
        whole.put(0, 59, 7);
        Due.due("all 60", whole.copy(0, 0, 1, 0, 60), 60);
        Due.due("the last of them", whole.cell(1, 59, 0), 7);
        Due.due("61", whole.copy(0, 0, 1, 0, 61), -13);
        Due.due("none at 60", whole.copy(0, 60, 1, 60, 0), 0);
        Due.due("none at 61", whole.copy(0, 61, 1, 60, 0), -13);
    }

    /** 'to another one (perhaps the same) from j on, as they were': where both overlap, too. */
    private static void cellsGoAsTheyWere() {
        for (int i = 0; i <= 5; i++) {
            for (int j = 0; j <= 5; j++) {
                for (int n = 0; n <= 5 - Math.max(i, j); n++) {
                    StruckThrees x = new StruckThrees();
                    Due.row(x, 1, 0, 1, 2, 3, 4, 5);
                    Due.due("copy of " + n + " from " + i + " to " + j, x.copy(1, i, 1, j, n), n);
                    for (int c = 0; c < 5; c++) {
                        Due.due("cell " + c + " then", x.cell(1, c, 0), c >= j && c < j + n ? 1 + i + c - j : 1 + c);
                    }
                }
            }
        }
    }

    /** Promise 25: 'CAST (unlike LANES)', behind NULL and ahead of INDEX, if no cell is taken, too. */
    private static void unlikeLanes() {
        for (int one = 0; one < 3; one++) {
            for (int other = 0; other < 3; other++) {
                StruckThrees x = new StruckThrees();
                Due.row(x, 0, one, 1);
                Due.row(x, 1, other, 2);
                Due.due("copy of " + one + " to " + other, x.copy(0, 0, 1, 0, 1), one == other ? 1 : -12);
                Due.due("its fault", x.fault(), one == other ? 0 : 2);
                Due.due("the cell then", x.cell(1, 0, other), one == other ? 1 : 2);
                Due.due("copy of none", x.copy(0, 0, 1, 0, 0), one == other ? 0 : -12);
                Due.due("copy beyond", x.copy(0, -1, 1, 9, -1), one == other ? -13 : -12);
            }
        }
    }

    /** Promise 25: 'FAULTS NULL (the first, the other)', ahead of all but UNKNOWN. */
    private static void nothingToCopyFromOrTo() {
        StruckThrees x = new StruckThrees();
        Due.row(x, 0, 1, 1);
        int[][] calls = {{2, 0}, {0, 2}, {2, 3}, {2, 2}};
        for (int[] c : calls) {
            for (int at = -1; at <= 1; at++) {
                Due.due("copy(" + c[0] + ", " + at + ", " + c[1] + ")", x.copy(c[0], at, c[1], at, at), -11);
                Due.due("its fault", x.fault(), 1);
            }
        }
        int[][] unknown = {{2, 4}, {4, 2}, {2, -1}, {-1, 2}, {4, 4}, {0, 4}, {4, 0}};
        for (int[] c : unknown) {
            Due.due("copy(" + c[0] + ", " + c[1] + ")", x.copy(c[0], 0, c[1], 0, 1), -1);
            Due.due("its fault", x.fault(), 0);
        }
    }

    /** Numbers whose sum is small again as an int are beyond all the same. */
    private static void indexesThatWrap() {
        StruckThrees x = new StruckThrees();
        Due.row(x, 0, 2, 1, 2, 3);
        Due.row(x, 1, 2, 8, 9, 10);
        int[] far = {MIN, MIN + 1, -2, MAX - 1, MAX};
        for (int i : far) {
            for (int n : new int[] {MIN, -1, 0, 1, 2, MAX - 1, MAX}) {
                Due.due("from " + i + " on, " + n, x.copy(0, i, 1, 0, n), -13);
                Due.due("to " + i + ", " + n, x.copy(0, 0, 1, i, n), -13);
            }
            Due.due("put at " + i, x.put(0, i, 0), -13);
            Due.due("cell at " + i, x.cell(0, i, 2), LOST);
        }
        Due.due("MAX of them", x.copy(0, 1, 1, 1, MAX), -13);
        for (int c = 0; c < 3; c++) Due.due("as it was", x.cell(1, c, 2), 8 + c);
    }

    /** 'STEEL (1): SIDE. WOOL (2): what STEEL's gives, and 100. BEATER (3): what WOOL's gives, and what STEEL's gives'. */
    private static void tellingByKinds() {
        for (int side = 1; side <= 9; side++) {
            StruckThrees x = Due.townOf("t;s" + side + ";w" + side + ";b" + side);
            Due.due("STEEL " + side, x.tell(0), side);
            Due.due("WOOL " + side, x.tell(1), side + 100);
            Due.due("BEATER " + side, x.tell(2), 2 * side + 100);
        }
    }

    /** 'COUNTED by a lent body (4): its number; BEATERS have their own (5): 30.' */
    private static void countedByKinds() {
        for (int kind = 0; kind < 3; kind++) {
            StringBuilder text = new StringBuilder("t");
            for (int p = 0; p < 9; p++) text.append(';').append("swb".charAt(kind)).append(5);
            StruckThrees x = Due.townOf(text.toString());
            for (int p = -1; p <= 9; p++) Due.due("count(" + p + ") of " + kind, x.count(p), p < 0 || p > 8 ? -1 : kind == 2 ? 30 : p);
        }
    }

    /** 'bodies that leave their number in TRACE .. as they begin': (3) ahead of (2) ahead of (1), and (1) once more. */
    private static void traceOfEachBody() {
        int[] told = {1, 2 * 31 + 1, ((3 * 31 + 2) * 31 + 1) * 31 + 1}, counted = {4, 4, 5};
        for (int p = 0; p < 3; p++) {
            StruckThrees x = Due.townOf("t;s3;w4;b5");
            Due.due("0 at first", x.trace(), 0);
            x.tell(p);
            Due.due("told " + p, x.trace(), told[p]);
            Due.due("told by trace() twice", x.trace(), told[p]);
            StruckThrees y = Due.townOf("t;s3;w4;b5");
            y.count(p);
            Due.due("counted " + p, y.trace(), counted[p]);
            y.tell(-1);
            y.count(3);
            y.as(p, 0);
            Due.due("nobody leaves a number", y.trace(), counted[p]);
            y.count(0);
            Due.due("31 times it and the number", y.trace(), 31 * counted[p] + 4);
        }
    }

    /** 'an int that wraps': the last TRACE that does not, and those behind it. */
    private static void traceWraps() {
        StruckThrees x = Due.townOf("t;s3;w4;b5");
        int[] dues = {1, 32, 993, 30784, 954305, 29583456, 917087137, -1635069824};
        for (int due : dues) {
            x.tell(0);
            Due.due("trace()", x.trace(), due);
        }
        long whole = -1635069824L;
        for (int k = 0; k < 40; k++) {
            x.tell(0);
            whole = (int) (31 * whole + 1);
            Due.due("trace() further on", x.trace(), whole);
        }
    }

    /** Promise 28: 'CAST: it is none (each is a STEEL, too; a BEATER is a WOOL)', 'UNKNOWN; OUTSIDE'. */
    private static void whoIsAsWhat() {
        StruckThrees x = Due.townOf("t;s3;w4;b5");
        for (int p = -1; p <= 3; p++) {
            for (int kind = -2; kind <= 4; kind++) {
                int due = p < 0 || p > 2 ? -1 : kind < 0 || kind > 2 ? -2 : kind <= p ? 1 : -12;
                Due.due("as(" + p + ", " + kind + ")", x.as(p, kind), due);
                Due.due("fault() of it", x.fault(), due == -12 ? 2 : 0);
            }
        }
    }

    /** Promise 30: '(0 ahead of any)': calls that name none leave it so, refused or not. */
    private static void faultAheadOfAny() {
        StruckThrees x = new StruckThrees();
        Due.due("fault() at first", x.fault(), 0);
        x.lose(0);
        x.lose(4);
        x.ofPerson(0, 0);
        x.bars(1);
        x.odds(0, 0);
        x.many(9);
        Due.due("fault() ahead of any", x.fault(), 0);
    }

    /** Promise 30: 'The FAULT of the latest call that names one': each of the four, by each call that names it. */
    private static void faultOfTheLatestThatNamesOne() {
        StruckThrees x = Due.townOf("t;s3;w4;b5");
        x.hang(0, 1, 2);
        Trial.Call[] calls = {
            (y, a) -> y.town(0, 1, 0, 10), (y, a) -> y.town(3, 0, 0, 10), (y, a) -> y.town(0, 0, 0, -1), (y, a) -> y.town(0, 0, 0, 11),
            (y, a) -> y.season(0, 1, 0, 0, 0), (y, a) -> y.season(3, 0, 0, 0, 0), (y, a) -> y.season(0, 0, 0, 6, 0),
            (y, a) -> y.together(0, 1, 0), (y, a) -> y.together(3, 0, 0), (y, a) -> y.together(0, 0, 10),
            (y, a) -> y.sheet(0, 0, -1), (y, a) -> y.put(3, 0, 0), (y, a) -> y.put(0, 10, 0),
            (y, a) -> y.cell(0, 0, 1), (y, a) -> y.cell(3, 0, 0), (y, a) -> y.cell(0, 10, 0),
            (y, a) -> y.copy(3, 0, 0, 0, 0), (y, a) -> y.copy(0, 0, 0, 0, 11), (y, a) -> y.as(0, 1)
        };
        int[] dues = {2, 1, 4, 3, 2, 1, 3, 2, 1, 3, 4, 1, 3, 2, 1, 3, 1, 3, 2};
        for (int k = 0; k < calls.length; k++) {
            long answer = calls[k].on(x, new int[0]);
            Due.due("answer of FAULT " + k, answer, k >= 13 && k <= 15 ? LOST : -10 - dues[k]);
            Due.due("fault() of " + k, x.fault(), dues[k]);
            Due.due("fault() told twice", x.fault(), dues[k]);
            x.bars(1);
            x.hang(0, 0, 0);
            x.lose(3);
            Due.due("fault() behind calls that name none", x.fault(), dues[k]);
        }
        x.sheet(1, 1, 1);
        x.sheet(2, 2, 1);
        Due.due("copy of unlike LANES", x.copy(1, 0, 2, 0, 1), -12);
        Due.due("fault() of it", x.fault(), 2);
    }

    /** Promise 30: '0: it came to none, or was refused': by each of the refusals that calls with FAULTS have. */
    private static void refusedIsNoFault() {
        StruckThrees x = Due.townOf("t;s3;w4;b5");
        Trial.Call[] calls = {
            (y, a) -> y.town(4, 0, 0, 0), (y, a) -> y.town(0, 3, 0, 0), (y, a) -> y.town(0, 0, 0, 3), (y, a) -> y.town(0, 0, 0, 10),
            (y, a) -> y.season(4, 0, 0, 0, 0), (y, a) -> y.season(0, 3, 0, 0, 0), (y, a) -> y.season(0, 0, 0, 21, 0),
            (y, a) -> y.season(0, 0, 0, 0, 5), (y, a) -> y.season(0, 0, 0, 1, 0), (y, a) -> y.season(0, 0, 0, 0, 0),
            (y, a) -> y.together(4, 0, 0), (y, a) -> y.together(0, 3, 0), (y, a) -> y.together(0, 0, 0),
            (y, a) -> y.sheet(4, 0, 0), (y, a) -> y.sheet(3, 3, 0), (y, a) -> y.sheet(3, 0, 61), (y, a) -> y.put(4, 0, 0),
            (y, a) -> y.put(0, 0, 't'), (y, a) -> y.cell(4, 0, 0), (y, a) -> y.cell(0, 0, 3), (y, a) -> y.cell(0, 0, 0),
            (y, a) -> y.copy(4, 0, 0, 0, 0), (y, a) -> y.copy(0, 0, 4, 0, 0), (y, a) -> y.copy(0, 0, 0, 0, 0),
            (y, a) -> y.as(3, 0), (y, a) -> y.as(0, 3), (y, a) -> y.as(0, 0), (y, a) -> y.sheet(2, 0, 0)
        };
        long[] dues = {-1, -2, -103, 3, -1, -2, -2, -2, -2, 0, -1, -2, -3, -1, -2, -2, -1, 1, LOST, LOST, 't', -1, -1, 0, -1, -2, 1, 1};
        for (int k = 0; k < calls.length; k++) {
            Due.due("a FAULT ahead", x.put(3, 0, 0), -11);
            Due.due("answer of " + k, calls[k].on(x, new int[0]), dues[k]);
            Due.due("fault() of " + k, x.fault(), 0);
        }
        StruckThrees none = new StruckThrees();
        none.sheet(0, 0, 2);
        none.put(3, 0, 0);
        Due.due("season without a TOWN", none.season(0, 0, 0, 1, 0), -3);
        Due.due("fault() of it", none.fault(), 0);
    }

    /** Promise 31: 'How many: 0 PEOPLE, 1 THREES that HANG, 2 which BAR it is, 3 THREES that RING, 4 READINGS .. OUTSIDE.' */
    private static void manyFrom0To4() {
        StruckThrees x = Due.townOf("t;b9;b9;b9;b9;b9;b9;b9;b9;b9");
        for (int t = 0; t < 3; t++) x.hang(3 * t, 3 * t + 1, 3 * t + 2);
        for (int t = 0; t < 3; t++) x.strike(t);
        x.bars(53);
        for (int k = 0; k < 8; k++) x.reading(k, 18);
        int[] full = {9, 3, 53, 3, 8};
        for (int what = -2; what <= 7; what++) Due.due("many(" + what + ")", x.many(what), what < 0 || what > 4 ? -2 : full[what]);
        x.bars(1);
        Due.due("none RINGS", x.many(3), 0);
        Due.due("BAR 54", x.many(2), 54);
        StruckThrees none = new StruckThrees();
        for (int what = -2; what <= 7; what++) Due.due("many(" + what + ") without a TOWN", none.many(what), what < 0 || what > 4 ? -2 : 0);
    }
}
