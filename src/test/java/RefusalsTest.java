/**
 * Terms: 'REFUSALS, in the order in which a call's line tells them ..; they change nothing (but fault(), of a call that
 * names FAULTS). .. Of a call the first that is come to, in the order told; it answers -10 less it (LOST, where a long
 * is answered, as for refusals) and changes nothing; fault() tells it.' Of each call: each refusal and each FAULT by
 * itself, at both ends, and each two at once; and that what only answers changes nothing.
 */
public final class RefusalsTest {
    private static final int MIN = Integer.MIN_VALUE, MAX = Integer.MAX_VALUE;
    private static final int UNKNOWN = Ways.UNKNOWN, OUTSIDE = Ways.OUTSIDE, STATE = Ways.STATE, FULL = Ways.FULL;
    private static final int NULL = Ways.NULL, CAST = Ways.CAST, INDEX = Ways.INDEX, SIZE = Ways.SIZE;
    private static final Trial.Setting NO_TOWN = trial -> trial.hasTown = false;
    /** Numbers that are no PERSON of 8; 32 and its like would be one, were a bit moved by them. */
    private static final int[] NOBODY = {-1, 8, 32, -32, MIN, MAX};
    private static final int[] NO_THREE = {-1, 2, 3, MIN, MAX};
    private static final int[] NO_SHEET = {-1, 4, MIN, MAX};
    private static final int[] NO_LANE = {-1, 3, MIN, MAX};

    public static void main(String[] args) {
        ofTown();
        ofPerson();
        ofBend();
        ofHang();
        ofThree();
        ofStrike();
        ofTouch();
        ofBars();
        ofLeave();
        ofSeason();
        ofPitched();
        ofMost();
        ofRather();
        ofTogether();
        ofReading();
        ofBack();
        ofSidesAndKinds();
        ofOdds();
        ofSheet();
        ofLose();
        ofPut();
        ofCell();
        ofCopy();
        ofTellAndCount();
        ofAs();
        ofMany();
        whatOnlyAnswersChangesNothing();
        Due.finish();
    }

    /** 'UNKNOWN; OUTSIDE: lane; FAULTS CAST (nothing is no CAST), NULL, SIZE: n is below 0, INDEX: not all cells are there'. */
    private static void ofTown() {
        new Ways("town", (x, a) -> x.town(a[0], a[1], a[2], a[3]), 0, 0, 0, 25).namesFaults()
            .arg(UNKNOWN, 0, NO_SHEET)
            .arg(OUTSIDE, 1, NO_LANE)
            .arg(NULL, 0, 3)
            .arg(CAST, 1, 1, 2)
            .arg(SIZE, 3, -1, MIN)
            .arg(INDEX, 2, -1, 26, MIN, MAX)
            .arg(INDEX, 3, 26, 60, MAX)
            .args(INDEX, 0, 0, 1, 25).args(INDEX, 0, 0, 25, 1).args(INDEX, 0, 0, 24, 2)
            .args(INDEX, 0, 0, -1, 0).args(INDEX, 0, 0, 26, 0).args(INDEX, 0, 0, MAX, 0).args(INDEX, 0, 0, MIN, 0)
            // A TEXT with a FIRST FAULT is not taken, and nothing is changed then, too; a FAULT stands ahead of it.
            .args(-100 - 0, 0, 0, 25, 0)
            .args(-100 - 0, 0, 0, 1, 24)
            .args(-100 - 24, 0, 0, 0, 24)
            .args(-100 - 7, 0, 0, 0, 7)
            .hold(8);
    }

    /** 'UNKNOWN; OUTSIDE.' */
    private static void ofPerson() {
        new Ways("ofPerson", (x, a) -> x.ofPerson(a[0], a[1]), 7, 4)
            .arg(UNKNOWN, 0, NOBODY).when(UNKNOWN, NO_TOWN).arg(OUTSIDE, 1, -1, 5, MIN, MAX).hold(0);
    }

    /** 'UNKNOWN; OUTSIDE; STATE: it HANGS.' */
    private static void ofBend() {
        new Ways("bend", (x, a) -> x.bend(a[0], a[1]), 7, 9)
            .arg(UNKNOWN, 0, NOBODY).when(UNKNOWN, NO_TOWN)
            .arg(OUTSIDE, 1, 0, 10, -1, MIN, MAX)
            .arg(STATE, 0, 0, 1, 2, 3, 4, 5)
            .hold(1);
    }

    /** 'UNKNOWN: one of them, two of them the same; STATE: one of them HANGS, they can't.' */
    private static void ofHang() {
        new Ways("hang", (x, a) -> x.hang(a[0], a[1], a[2]), 0, 1, 2).with(trial -> trial.threes = 1)
            .arg(UNKNOWN, 0, NOBODY).arg(UNKNOWN, 1, NOBODY).arg(UNKNOWN, 2, NOBODY).when(UNKNOWN, NO_TOWN)
            .when(UNKNOWN, trial -> trial.args[1] = trial.args[0])
            .when(UNKNOWN, trial -> trial.args[2] = trial.args[0])
            .when(UNKNOWN, trial -> trial.args[2] = trial.args[1])
            .arg(STATE, 0, 3, 4, 5).arg(STATE, 1, 3, 4, 5).arg(STATE, 2, 3, 4, 5)
            // 2 and 1 are not longer than 3; the three of 9 can HANG, but do so.
            .args(STATE, 0, 6, 7).args(STATE, 6, 7, 0).args(STATE, 7, 0, 6).args(STATE, 3, 4, 5)
            .hold(1);
    }

    /** 'UNKNOWN; OUTSIDE.' */
    private static void ofThree() {
        new Ways("ofThree", (x, a) -> x.ofThree(a[0], a[1]), 1, 5)
            .arg(UNKNOWN, 0, NO_THREE).when(UNKNOWN, trial -> trial.threes = 1).when(UNKNOWN, NO_TOWN)
            .arg(OUTSIDE, 1, -1, 6, MIN, MAX).hold(0);
    }

    /** 'UNKNOWN; STATE: it RINGS yet.' */
    private static void ofStrike() {
        new Ways("strike", (x, a) -> x.strike(a[0]), 1)
            .arg(UNKNOWN, 0, NO_THREE).when(UNKNOWN, trial -> trial.threes = 0).when(UNKNOWN, NO_TOWN)
            .arg(STATE, 0, 0).hold(15);
    }

    /** 'UNKNOWN; STATE: it does not RING.' */
    private static void ofTouch() {
        new Ways("touch", (x, a) -> x.touch(a[0]), 0)
            .arg(UNKNOWN, 0, NO_THREE).when(UNKNOWN, trial -> trial.threes = 0).when(UNKNOWN, NO_TOWN)
            .arg(STATE, 0, 1).hold(28);
    }

    /** 'n BARS (1 .. 99) ..: OUTSIDE; STATE: there is no TOWN.' */
    private static void ofBars() {
        new Ways("bars", (x, a) -> x.bars(a[0]), 27)
            .arg(OUTSIDE, 0, 0, 100, -1, MIN, MAX).when(STATE, NO_TOWN).hold(1);
    }

    /** 'UNKNOWN.' */
    private static void ofLeave() {
        new Ways("leave", (x, a) -> x.leave(a[0]), 1)
            .arg(UNKNOWN, 0, NO_THREE).when(UNKNOWN, trial -> trial.threes = 1).when(UNKNOWN, NO_TOWN).hold(2);
    }

    /**
     * 'UNKNOWN: SHEET; OUTSIDE: lane, n (0 .. 20), what (0 .. 4); FAULTS CAST, NULL, INDEX; STATE: there is no TOWN; pair by
     * pair OUTSIDE: the second is none of 0 .. 3, the first is not as told.' Refusals stand ahead of a FIRST WRONG.
     */
    private static void ofSeason() {
        new Ways("season", (x, a) -> x.season(a[0], a[1], a[2], a[3], a[4]), 1, 2, 0, 4, 4).namesFaults()
            .arg(UNKNOWN, 0, NO_SHEET)
            .arg(OUTSIDE, 1, NO_LANE).arg(OUTSIDE, 3, -1, 21, MIN, MAX).arg(OUTSIDE, 4, -1, 5, MIN, MAX)
            .arg(NULL, 0, 3)
            .arg(CAST, 1, 0, 1)
            .arg(INDEX, 2, -1, 1, 8, 9, MIN, MAX).arg(INDEX, 3, 5, 20)
            .args(INDEX, 1, 2, -1, 0, 0).args(INDEX, 1, 2, 9, 0, 0).args(INDEX, 1, 2, 7, 1, 0)
            .when(STATE, NO_TOWN)
            .when(OUTSIDE, trial -> trial.row[1] = 4).when(OUTSIDE, trial -> trial.row[1] = -1)
            .when(OUTSIDE, trial -> trial.row[7] = MAX).when(OUTSIDE, trial -> trial.row[7] = MIN)
            .when(OUTSIDE, trial -> trial.row[0] = 3).when(OUTSIDE, trial -> trial.row[0] = -1)
            .when(OUTSIDE, trial -> trial.row[2] = 10).when(OUTSIDE, trial -> trial.row[2] = -1)
            .when(OUTSIDE, trial -> trial.row[6] = 3).when(OUTSIDE, trial -> trial.row[6] = MIN)
            // A FIRST WRONG: what is not STRUCK is TOUCHED; what is STRUCK is so again.
            .when(-100 - 0, trial -> trial.row[0] = 1)
            .when(-100 - 3, trial -> trial.row[7] = 0)
            .hold(0);
    }

    /** 'OF PITCH v (3 .. 27): .. (k -1), the k-th of these sets (0 .. 83) .. OUTSIDE; STATE: there is no TOWN.' */
    private static void ofPitched() {
        new Ways("pitched", (x, a) -> x.pitched(a[0], a[1]), 27, 0)
            .arg(OUTSIDE, 0, 2, 28, MIN, MAX).arg(OUTSIDE, 1, -2, 84, MIN, MAX).when(STATE, NO_TOWN).hold(56);
    }

    /** '(k -2) .. (k -1) .. PERSON k (0 .. 8 ..). OUTSIDE; STATE: there is no TOWN.' */
    private static void ofMost() {
        new Ways("most", (x, a) -> x.most(a[0]), -2).arg(OUTSIDE, 0, -3, 9, MIN, MAX).when(STATE, NO_TOWN).hold(2);
    }

    /** 'STATE: there is no TOWN.' */
    private static void ofRather() {
        new Ways("rather", (x, a) -> x.rather()).when(STATE, NO_TOWN).hold(4 | 8 | 32);
    }

    /** 'UNKNOWN: SHEET; OUTSIDE: lane; STATE: no THREE HANGS; FAULTS CAST, NULL, INDEX; OUTSIDE: one is not 0 .. 99.' */
    private static void ofTogether() {
        new Ways("together", (x, a) -> x.together(a[0], a[1], a[2]), 1, 2, 6).with(trial -> trial.row = new int[] {-1, 100, 5, 0, 99, 1, 0, 9})
            .namesFaults()
            .arg(UNKNOWN, 0, NO_SHEET)
            .arg(OUTSIDE, 1, NO_LANE)
            .when(STATE, trial -> trial.threes = 0).when(STATE, NO_TOWN)
            .arg(NULL, 0, 3)
            .arg(CAST, 1, 0, 1)
            .arg(INDEX, 2, -1, 7, 8, 9, MIN, MAX)
            .arg(OUTSIDE, 2, 0, 1)
            .when(OUTSIDE, trial -> trial.row[6] = 100).when(OUTSIDE, trial -> trial.row[6] = -1)
            .when(OUTSIDE, trial -> trial.row[7] = MAX).when(OUTSIDE, trial -> trial.row[7] = MIN)
            .hold(81);
    }

    /** 'UNKNOWN; OUTSIDE: v (0 .. 18); FULL.' */
    private static void ofReading() {
        new Ways("reading", (x, a) -> x.reading(a[0], a[1]), 7, 18)
            .arg(UNKNOWN, 0, NOBODY).when(UNKNOWN, NO_TOWN)
            .arg(OUTSIDE, 1, -1, 19, MIN, MAX).when(FULL, trial -> trial.readings = 8).hold(2);
    }

    /** 'The last k READINGS (0 .. as many as there are) ..: OUTSIDE.' */
    private static void ofBack() {
        new Ways("back", (x, a) -> x.back(a[0]), 2)
            .arg(OUTSIDE, 0, -1, 3, MIN, MAX).when(OUTSIDE, trial -> trial.readings = 1).when(OUTSIDE, NO_TOWN).hold(0);
    }

    /** 'UNKNOWN.' */
    private static void ofSidesAndKinds() {
        new Ways("sides", (x, a) -> x.sides(a[0]), 7).arg(UNKNOWN, 0, NOBODY).when(UNKNOWN, NO_TOWN).hold(1022);
        new Ways("kinds", (x, a) -> x.kinds(a[0]), 7).arg(UNKNOWN, 0, NOBODY).when(UNKNOWN, NO_TOWN).hold(7);
    }

    /** 'LOST: p is no PERSON, nor -1; OUTSIDE; STATE: there is no TOWN.' */
    private static void ofOdds() {
        new Ways("odds", (x, a) -> x.odds(a[0], a[1]), 7, 0).answersLong()
            .arg(UNKNOWN, 0, -2, 8, 32, MIN, MAX).arg(OUTSIDE, 1, -1, 2, MIN, MAX)
            .when(STATE, NO_TOWN).when(STATE, trial -> { trial.args[0] = -1; trial.hasTown = false; }).hold(1);
    }

    /** 'UNKNOWN; OUTSIDE: lane, n above 60; SIZE.' */
    private static void ofSheet() {
        new Ways("sheet", (x, a) -> x.sheet(a[0], a[1], a[2]), 1, 1, 60).namesFaults()
            .arg(UNKNOWN, 0, NO_SHEET).arg(OUTSIDE, 1, NO_LANE).arg(OUTSIDE, 2, 61, MAX).arg(SIZE, 2, -1, MIN).hold(1);
    }

    /** '0: it had nothing. UNKNOWN.' */
    private static void ofLose() {
        new Ways("lose", (x, a) -> x.lose(a[0]), 1).arg(UNKNOWN, 0, NO_SHEET).arg(0, 0, 3).hold(1);
    }

    /** 'UNKNOWN; NULL; INDEX.' */
    private static void ofPut() {
        new Ways("put", (x, a) -> x.put(a[0], a[1], a[2]), 1, 7, 99).namesFaults()
            .arg(UNKNOWN, 0, NO_SHEET).arg(NULL, 0, 3).arg(INDEX, 1, -1, 8, 59, 60, MIN, MAX).hold(1);
    }

    /** 'LOST: UNKNOWN, OUTSIDE: lane; FAULTS CAST (nothing is no CAST), NULL, INDEX.' */
    private static void ofCell() {
        new Ways("cell", (x, a) -> x.cell(a[0], a[1], a[2]), 1, 7, 2).namesFaults().answersLong()
            .arg(UNKNOWN, 0, NO_SHEET).arg(OUTSIDE, 2, NO_LANE).arg(NULL, 0, 3).arg(CAST, 2, 0, 1)
            .arg(INDEX, 1, -1, 8, 59, 60, MIN, MAX).hold(3);
    }

    /** 'UNKNOWN; FAULTS NULL (the first, the other), CAST (unlike LANES), INDEX: i, j, n below 0 or beyond.' */
    private static void ofCopy() {
        new Ways("copy", (x, a) -> x.copy(a[0], a[1], a[2], a[3], a[4]), 1, 5, 2, 0, 3).namesFaults().with(trial -> trial.lane = 1)
            .arg(UNKNOWN, 0, NO_SHEET).arg(UNKNOWN, 2, NO_SHEET)
            .arg(NULL, 0, 3).arg(NULL, 2, 3)
            .arg(CAST, 0, 0).arg(CAST, 2, 0)
            .arg(INDEX, 1, -1, 6, 8, 9, MIN, MAX).arg(INDEX, 3, -1, 1, 3, 4, MIN, MAX).arg(INDEX, 4, -1, 4, 60, MIN, MAX)
            .args(INDEX, 1, 9, 2, 0, 0).args(INDEX, 1, -1, 2, 0, 0).args(INDEX, 1, 0, 2, 4, 0).args(INDEX, 1, 0, 2, -1, 0)
            .args(INDEX, 2, 0, 1, 0, 4).args(INDEX, 1, 2, 1, 1, 7).args(INDEX, 1, 1, 1, 2, 7)
            .hold(3);
    }

    /** 'UNKNOWN.' TRACE is as it was, then, too. */
    private static void ofTellAndCount() {
        new Ways("tell", (x, a) -> x.tell(a[0]), 7).arg(UNKNOWN, 0, NOBODY).when(UNKNOWN, NO_TOWN).hold(1);
        new Ways("count", (x, a) -> x.count(a[0]), 7).arg(UNKNOWN, 0, NOBODY).when(UNKNOWN, NO_TOWN).hold(7);
    }

    /** 'UNKNOWN; OUTSIDE; CAST: it is none (each is a STEEL, too; a BEATER is a WOOL).' */
    private static void ofAs() {
        new Ways("as", (x, a) -> x.as(a[0], a[1]), 5, 2).namesFaults()
            .arg(UNKNOWN, 0, NOBODY).when(UNKNOWN, NO_TOWN).arg(OUTSIDE, 1, -1, 3, MIN, MAX)
            .arg(CAST, 0, 0, 1, 3, 4, 6, 7).args(CAST, 0, 1).args(CAST, 7, 1).hold(1);
    }

    /** 'OUTSIDE.' Not even without a TOWN is there a STATE. */
    private static void ofMany() {
        new Ways("many", (x, a) -> x.many(a[0]), 0).arg(OUTSIDE, 0, -1, 5, MIN, MAX).hold(8);
    }

    /** Calls that are taken and tell something change nothing; fault() is 0 behind those that name FAULTS, and as it was else. */
    private static void whatOnlyAnswersChangesNothing() {
        Trial.Call[] silent = {
            (x, a) -> x.ofPerson(3, 4), (x, a) -> x.ofThree(0, 5), (x, a) -> x.pitched(27, 83), (x, a) -> x.pitched(12, -1),
            (x, a) -> x.most(-2), (x, a) -> x.most(8), (x, a) -> x.rather(), (x, a) -> x.back(0), (x, a) -> x.sides(1),
            (x, a) -> x.kinds(6), (x, a) -> x.odds(-1, 1), (x, a) -> x.odds(7, 0), (x, a) -> x.trace(), (x, a) -> x.fault(),
            (x, a) -> x.many(4), (x, a) -> x.lose(3)
        };
        for (int k = 0; k < silent.length; k++) changesNothing("what only answers " + k, silent[k], 4);
        Trial.Call[] faulty = {
            (x, a) -> x.season(1, 2, 0, 4, 0), (x, a) -> x.season(1, 2, 0, 4, 1), (x, a) -> x.season(1, 2, 0, 4, 2),
            (x, a) -> x.season(1, 2, 0, 4, 3), (x, a) -> x.season(1, 2, 0, 4, 4), (x, a) -> x.season(1, 2, 8, 0, 0),
            (x, a) -> x.season(1, 2, 4, 2, 1), (x, a) -> x.together(1, 2, 0), (x, a) -> x.cell(1, 7, 2), (x, a) -> x.as(5, 2),
            (x, a) -> x.copy(1, 8, 1, 0, 0), (x, a) -> x.copy(1, 0, 1, 0, 8), (x, a) -> x.put(1, 2, 3)
        };
        for (int k = 0; k < faulty.length; k++) changesNothing("what names FAULTS and only answers " + k, faulty[k], 0);
    }

    private static void changesNothing(String what, Trial.Call call, int fault) {
        StruckThrees x = new Trial().made(4), twin = new Trial().made(4);
        long answer = call.on(x, new int[0]);
        Due.due("fault() behind " + what + ", which answered " + answer, x.fault(), fault);
        Told.same(what, x, twin);
    }
}
