/** Part 1 and promises 1 to 4: each sentence that names a boundary case, by itself. */
public final class TownEdgesTest {
    private static final int MIN = Integer.MIN_VALUE, MAX = Integer.MAX_VALUE;
    private static final String NINE = "t;s1;w2;b3;s4;w5;b6;s7;w8;b9";

    public static void main(String[] args) {
        noTownAtFirst();
        sheetsHaveNothingAtFirst();
        threeToNinePeople();
        theSemicolonOfATenth();
        theFirstCodeWithWhichNoTextGoesOn();
        codesThatOnlyACutWouldTake();
        textsThatJustEndTooSoon();
        theFirstOfSeveralFaults();
        textsUpToTheRowsEnds();
        onlyTheCellsThatAreTold();
        nothingIsNoCast();
        aTextThatIsTakenMakesAllAnew();
        aTextThatIsTakenLeavesTraceAndSheets();
        aTextThatIsNotTakenChangesNothing();
        ringOfAPerson();
        noThreeNoJoy();
        sidesOneToNineAreBentTo();
        whoHangsIsNotBent();
        whatABendChanges();
        Due.finish();
    }

    /** Promise 1: 'No TOWN (no PEOPLE)'; promise 31: '0 all without a TOWN'. */
    private static void noTownAtFirst() {
        StruckThrees x = new StruckThrees();
        for (int what = 0; what <= 4; what++) Due.due("many(" + what + ") at first", x.many(what), 0);
        for (int p = -1; p <= 9; p++) Due.due("ofPerson(" + p + ", 0) at first", x.ofPerson(p, 0), -1);
        for (int t = -1; t <= 3; t++) Due.due("ofThree(" + t + ", 0) at first", x.ofThree(t, 0), -1);
        Due.due("back(0) at first", x.back(0), 0);
        Due.due("back(1) at first", x.back(1), -2);
        Due.due("trace() at first", x.trace(), 0);
        Due.due("fault() at first", x.fault(), 0);
    }

    /** Promise 1: 'SHEETS have nothing.' A row of 0 numbers is not nothing. */
    private static void sheetsHaveNothingAtFirst() {
        for (int k = 0; k < 4; k++) {
            StruckThrees x = new StruckThrees();
            Due.due("lose(" + k + ") at first", x.lose(k), 0);
            Due.due("town at first", x.town(k, 0, 0, 0), -11);
            Due.due("season at first", x.season(k, 0, 0, 0, 0), -11);
            Due.due("copy at first", x.copy(k, 0, k, 0, 0), -11);
            Due.due("put at first", x.put(k, 0, 0), -11);
            for (int lane = 0; lane < 3; lane++) {
                Due.due("cell at first", x.cell(k, 0, lane), StruckThrees.LOST);
                Due.due("its fault", x.fault(), 1);
            }
            Due.due("a row of 0", x.sheet(k, 0, 0), 1);
            Due.due("put to it", x.put(k, 0, 0), -13);
        }
    }

    private static String textOf(int people) {
        StringBuilder text = new StringBuilder("t");
        for (int p = 0; p < people; p++) text.append(';').append("swb".charAt(p % 3)).append(p % 9 + 1);
        return text.toString();
    }

    /** 'A TOWN by a TEXT: t, then 3 to 9 PEOPLE': 0, 1, 2 end too soon, 10 and more go on too long. */
    private static void threeToNinePeople() {
        for (int people = 0; people <= 19; people++) {
            StruckThrees x = new StruckThrees();
            int due = people < 3 ? -100 - (1 + 3 * people) : people > 9 ? -128 : people;
            Due.due("town of " + people, Due.settle(x, textOf(people)), due);
            Due.due("PEOPLE of it", x.many(0), Math.max(0, due));
            Due.due("fault() of it", x.fault(), 0);
            for (int p = 0; p < 10; p++) {
                Due.due("PERSON " + p + " of " + due, x.ofPerson(p, 1), p < due ? p % 9 + 1 : -1);
                Due.due("its kind", x.ofPerson(p, 0), p < due ? p % 3 : -1);
            }
        }
    }

    /** '(the ; of a tenth PERSON)': behind nine no code is taken, what it is, and what is behind it. */
    private static void theSemicolonOfATenth() {
        for (String more : new String[] {";", ";s", ";s1", ";s1;", ";;", "t", "s", "1", "x"}) {
            StruckThrees x = new StruckThrees();
            Due.due("nine and " + more, Due.settle(x, NINE + more), -128);
            Due.due("nine of it", x.town(0, 0, 0, 28), 9);
        }
    }

    private static boolean goesOn(int place, int code) {
        if (place == 0) return code == 116;
        if (place >= 28) return false;
        if (place % 3 == 1) return code == 59;
        if (place % 3 == 2) return code == 115 || code == 119 || code == 98;
        return code >= 49 && code <= 57;
    }

    /** 'FIRST FAULT: the place (from 0 on) of the first code with which no TEXT goes on': each place, each byte. */
    private static void theFirstCodeWithWhichNoTextGoesOn() {
        for (int place = 0; place <= 28; place++) {
            for (int code = -128; code <= 127; code++) {
                StruckThrees x = new StruckThrees();
                Due.text(x, 1, 0, NINE + "?");
                x.put(1, place, code);
                int n = place + 1;
                boolean whole = n >= 10 && n % 3 == 1;
                int due = !goesOn(place, code) ? -100 - place : whole ? place / 3 : -100 - n;
                Due.due("town of " + place + " good codes and " + code, x.town(1, 0, 0, n), due);
            }
        }
    }

    /** '(Codes: t 116, ..)': a code of a longer LANE is not cut; one of a byte is, as it comes to its cell. */
    private static void codesThatOnlyACutWouldTake() {
        for (int place = 0; place < 10; place++) {
            int code = NINE.charAt(place);
            for (int more : new int[] {256, -256, 65536, 1 << 31}) {
                for (int lane = 0; lane < 3; lane++) {
                    StruckThrees x = new StruckThrees();
                    Due.text(x, 2, lane, NINE);
                    x.put(2, place, code + more);
                    boolean isCut = lane == 0 || lane == 1 && (short) more == 0;
                    Due.due(code + more + " of lane " + lane, x.town(2, lane, 0, 10), isCut ? 3 : -100 - place);
                }
            }
        }
    }

    /** 'how many codes there are, if it just ends too soon'; a TEXT of no codes, too. */
    private static void textsThatJustEndTooSoon() {
        for (int lane = 0; lane < 3; lane++) {
            StruckThrees x = new StruckThrees();
            Due.text(x, 0, lane, NINE);
            for (int n = 0; n <= 28; n++) {
                boolean whole = n >= 10 && n % 3 == 1;
                Due.due("town of " + n + " codes", x.town(0, lane, 0, n), whole ? n / 3 : -100 - n);
            }
            Due.due("town of no codes at the end", x.town(0, lane, 28, 0), -100);
            Due.due("fault() of it", x.fault(), 0);
        }
    }

    /** 'the first code': of two that are wrong, and of a wrong one in a TEXT that ends too soon or goes on too long. */
    private static void theFirstOfSeveralFaults() {
        String[] texts = {"x", "xx", "tx", "t;x", "t;sx", "t;s0;x", "t;s1;x1", "t;s1;s1x", "t;s1;s1;s", "t;s1;s1;s:x",
            "t;s1;s1;s1x", textOf(10).replace("w2", "x2"), textOf(11).replace("b9", "b0"), "t;s1;s1;s1;s1;s1;s1;s1;s1;s1;s0"};
        int[] dues = {0, 0, 1, 2, 3, 3, 5, 7, 9, 9, 10, 5, 27, 28};
        for (int k = 0; k < texts.length; k++) {
            Due.due("town of " + texts[k], Due.settle(new StruckThrees(), texts[k]), -100 - dues[k]);
        }
    }

    /** Promise 2: 'INDEX: not all cells are there': the last cell may be taken, the one behind it not. */
    private static void textsUpToTheRowsEnds() {
        for (int from : new int[] {0, 1, 32}) {
            StruckThrees x = new StruckThrees();
            StringBuilder text = new StringBuilder();
            for (int k = 0; k < from; k++) text.append('t');
            Due.text(x, 3, 1, text + NINE);
            int length = from + 28;
            Due.due("to the last cell", x.town(3, 1, from, 28), 9);
            Due.due("its fault", x.fault(), 0);
            Due.due("one more than there is", x.town(3, 1, from, 29), -13);
            Due.due("its fault", x.fault(), 3);
            Due.due("from one more on", x.town(3, 1, from + 1, 28), -13);
            Due.due("none from the end on", x.town(3, 1, length, 0), -100);
            Due.due("its fault", x.fault(), 0);
            Due.due("none from behind the end on", x.town(3, 1, length + 1, 0), -13);
            Due.due("none from -1 on", x.town(3, 1, -1, 0), -13);
            Due.due("one from the end on", x.town(3, 1, length, 1), -13);
            // As sums of ints these would be as good as 0.
            Due.due("from MAX on", x.town(3, 1, MAX, MAX), -13);
            Due.due("so many as MAX", x.town(3, 1, from, MAX), -13);
            Due.due("from MIN on", x.town(3, 1, MIN, MAX), -13);
            Due.due("SIZE ahead of INDEX", x.town(3, 1, MIN, MIN), -14);
            Due.due("nine as they were", x.many(0), 9);
        }
        StruckThrees empty = new StruckThrees();
        empty.sheet(0, 0, 0);
        Due.due("a row of 0 numbers", empty.town(0, 0, 0, 0), -100);
        Due.due("a row of 0 numbers, one", empty.town(0, 0, 0, 1), -13);
        Due.due("a row of 0 numbers, from 1 on", empty.town(0, 0, 1, 0), -13);
    }

    /** 'A TOWN by a TEXT of n cells of a SHEET from i on': what is ahead of them and behind them is not looked at. */
    private static void onlyTheCellsThatAreTold() {
        StruckThrees x = new StruckThrees();
        Due.text(x, 0, 2, "t;" + NINE + ";s1");
        for (int people = 3; people <= 9; people++) Due.due("town from 2 on", x.town(0, 2, 2, 1 + 3 * people), people);
        Due.due("with the one ahead", x.town(0, 2, 1, 28), -100);
        Due.due("with the one behind", x.town(0, 2, 2, 29), -128);
        Due.due("from 0 on", x.town(0, 2, 0, 30), -102);
    }

    /** Promise 2: 'FAULTS CAST (nothing is no CAST), NULL': nothing is NULL, taken as a row of any LANE. */
    private static void nothingIsNoCast() {
        for (int had = 0; had < 3; had++) {
            for (int lane = 0; lane < 3; lane++) {
                StruckThrees x = Due.townOf("t;s3;w4;b5");
                x.hang(0, 1, 2);
                x.sheet(1, had, 4);
                Due.due("a row of " + had + " as one of " + lane, x.town(1, lane, 0, 0), had == lane ? -100 : -12);
                Due.due("its fault", x.fault(), had == lane ? 0 : 2);
                x.lose(1);
                Due.due("nothing as a TEXT", x.town(1, lane, -1, -1), -11);
                Due.due("its fault", x.fault(), 1);
                Due.due("nothing as a SEASON", x.season(1, lane, -1, 20, 0), -11);
                Due.due("nothing as BARS", x.together(1, lane, -1), -11);
                Due.due("nothing as a cell's row", x.cell(1, -1, lane), StruckThrees.LOST);
                Due.due("its fault", x.fault(), 1);
            }
        }
    }

    private static StruckThrees busy(String text) {
        StruckThrees x = Due.townOf(text);
        x.hang(0, 1, 2);
        x.strike(0);
        x.bars(4);
        x.reading(0, 3);
        x.reading(1, 9);
        return x;
    }

    /** 'A TEXT that is taken makes all anew: nobody HANGS, it is BAR 0, no READINGS.' By the same TEXT, too. */
    private static void aTextThatIsTakenMakesAllAnew() {
        for (String text : new String[] {"t;s3;w4;b5;s5", "t;b9;b9;b9", NINE}) {
            StruckThrees x = busy("t;s3;w4;b5;s5");
            Due.due("most ahead of it", x.most(-1), 18);
            Due.due("anew", Due.settle(x, text), text.length() / 3);
            Due.due("hang anew", x.hang(1, 2, 0), text.equals(NINE) ? -3 : 0);
            if (!text.equals(NINE)) Due.due("leave anew", x.leave(0), 2);
            Told.same("a TEXT that is taken", x, Due.townOf(text));
        }
    }

    /** The same: what is not told there is as it was. */
    private static void aTextThatIsTakenLeavesTraceAndSheets() {
        StruckThrees x = busy("t;s3;w4;b5;s5");
        x.tell(1);
        Due.row(x, 2, 1, 5, -6);
        Due.due("a town again", x.town(0, 0, 0, 13), 4);
        Due.due("trace() as it was", x.trace(), 2 * 31 + 1);
        Due.due("the TEXT is there", x.cell(0, 12, 0), '5');
        Due.due("another row is there", x.cell(2, 1, 1), -6);
        x.tell(0);
        Due.due("trace() goes on", x.trace(), (2 * 31 + 1) * 31 + 1);
    }

    /** The same, of one that is not: -100 less the FIRST FAULT, and all is as it was, but fault(). */
    private static void aTextThatIsNotTakenChangesNothing() {
        String[] texts = {"", "t", "t;s3;w4;b", "t;s3;w4;b5;", "t;s3;w4;b0", NINE + ";", "x;s3;w4;b5", "t;b1;b1;b1x"};
        for (String text : texts) {
            StruckThrees x = busy("t;s3;w4;b5;s5"), twin = busy("t;s3;w4;b5;s5");
            Due.text(x, 0, 0, text);
            Due.text(twin, 0, 0, text);
            x.put(3, 0, 0);
            Due.due("town of " + text + " is refused", x.town(0, 0, 0, text.length()) <= -100 ? 1 : 0, 1);
            Due.due("fault() of it", x.fault(), 0);
            Told.same("town of " + text, x, twin);
        }
    }

    /** 'RING of a PERSON: of STEEL SIDE; of WOOL half of it; of a BEATER twice what a STEEL's is.' 'Quotients are cut.' */
    private static void ringOfAPerson() {
        int[] halves = {0, 0, 1, 1, 2, 2, 3, 3, 4, 4};
        for (int side = 1; side <= 9; side++) {
            StruckThrees x = Due.townOf("t;s" + side + ";w" + side + ";b" + side);
            Due.due("RING of STEEL " + side, x.ofPerson(0, 2), side);
            Due.due("RING of WOOL " + side, x.ofPerson(1, 2), halves[side]);
            Due.due("RING of a BEATER " + side, x.ofPerson(2, 2), 2 * side);
            for (int p = 0; p < 3; p++) Due.due("SIDE " + side, x.ofPerson(p, 1), side);
        }
    }

    /** Promise 3: '3 its THREE (NONE: it does not HANG), 4 JOY'; part 3: '0, if it does not HANG'. */
    private static void noThreeNoJoy() {
        StruckThrees x = Due.townOf("t;s3;w4;b5;w1;w1;w1;s9");
        x.hang(0, 1, 2);
        x.hang(3, 4, 5);
        int[] threes = {0, 0, 0, 1, 1, 1, -9}, joys = {15, 15, 15, 0, 0, 0, 0};
        for (int p = 0; p < 7; p++) {
            Due.due("THREE of " + p, x.ofPerson(p, 3), threes[p]);
            Due.due("JOY of " + p, x.ofPerson(p, 4), joys[p]);
        }
        x.strike(0);
        x.bars(14);
        Due.due("JOY goes by RINGS, not by BARS that are left", x.ofPerson(0, 4), 15);
        x.leave(0);
        for (int p = 0; p < 3; p++) {
            Due.due("no THREE any more", x.ofPerson(p, 3), -9);
            Due.due("no JOY any more", x.ofPerson(p, 4), 0);
        }
        Due.due("1 less", x.ofPerson(5, 3), 0);
    }

    /** Promise 4: 'SIDE of a PERSON becomes v (1 .. 9): what it was.' */
    private static void sidesOneToNineAreBentTo() {
        StruckThrees x = Due.townOf("t;s3;w4;b5");
        for (int p = 0; p < 3; p++) {
            int was = 3 + p;
            for (int v = -2; v <= 12; v++) {
                boolean taken = v >= 1 && v <= 9;
                Due.due("bend(" + p + ", " + v + ")", x.bend(p, v), taken ? was : -2);
                was = taken ? v : was;
                Due.due("SIDE then", x.ofPerson(p, 1), was);
            }
            Due.due("bend to what it is", x.bend(p, 9), 9);
            Due.due("kind as it was", x.ofPerson(p, 0), p);
        }
    }

    /** Promise 4: 'STATE: it HANGS', and only while it does. */
    private static void whoHangsIsNotBent() {
        StruckThrees x = Due.townOf("t;s3;w4;b5;s5;s5;s5;s5");
        x.hang(3, 4, 5);
        x.hang(0, 1, 2);
        for (int p = 0; p < 7; p++) Due.due("bend " + p + " while threes HANG", x.bend(p, 5), p == 6 ? 5 : -3);
        x.leave(0);
        for (int p = 0; p < 7; p++) Due.due("bend " + p + " when one is over", x.bend(p, 5), p > 2 ? 5 : -3);
        x.leave(0);
        for (int p = 0; p < 7; p++) Due.due("bend " + p + " when all are", x.bend(p, 1), p > 2 ? 5 : 3 + p);
    }

    /** What goes by SIDES goes by the bent one. */
    private static void whatABendChanges() {
        StruckThrees x = Due.townOf("t;s1;s2;s3;s9");
        Due.due("can't", x.hang(0, 1, 2), -3);
        Due.due("most ahead", x.most(-2), 0);
        Due.due("odds ahead", x.odds(-1, 0), 0);
        x.bend(0, 2);
        Due.due("most behind", x.most(-2), 1);
        Due.due("odds behind", x.odds(-1, 1), 4);
        Due.due("pitched behind", x.pitched(7, 0), 7);
        Due.due("rather behind", x.rather(), 7);
        Due.due("tell behind", x.tell(0), 2);
        Due.due("can", x.hang(0, 1, 2), 0);
        Due.due("PITCH behind", x.ofThree(0, 1), 7);
        Due.due("RINGS behind", x.ofThree(0, 2), 7);
    }
}
