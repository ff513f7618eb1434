/** Affairs of a town by threes: who can hang, how long it rings, and what can be told of it. */
public final class StruckThrees {
    public static final int UNKNOWN = -1, OUTSIDE = -2, STATE = -3, FULL = -4, NONE = -9;
    public static final long LOST = Long.MIN_VALUE;

    private static final int NULL = 1, CAST = 2, INDEX = 3, SIZE = 4;
    private static final int STEEL = 0, WOOL = 1, BEATER = 2;
    private static final int STRUCK = 0, TOUCHED = 1, BARS = 2, LEFT = 3;

    private final Sheet[] sheets;
    private final People people;
    private final Threes threes;
    private final Season season;
    private final Most most;
    private final Readings readings;
    private int bar;
    private int trace;
    private int fault;

    public StruckThrees() {
        sheets = new Sheet[] {new Sheet(), new Sheet(), new Sheet(), new Sheet()};
        people = new People();
        threes = new Threes();
        season = new Season();
        most = new Most();
        readings = new Readings();
    }

    // ---- 1 the town

    public int town(int sheet, int lane, int i, int n) {
        fault = 0;
        Sheet row = sheetAt(sheet);
        if (row == null) return UNKNOWN;
        if (!isLane(lane)) return OUTSIDE;
        int met = row.faultAs(lane);
        if (met == 0 && n < 0) met = SIZE;
        if (met == 0) met = row.faultOfCells(i, n);
        if (met != 0) return cameTo(met);
        int wrong = firstFault(row, i, n);
        if (wrong != NONE) return -100 - wrong;
        people.settle(row, i, n);
        threes.clear();
        readings.clear();
        most.forget();
        bar = 0;
        return people.count;
    }

    public int ofPerson(int p, int what) {
        if (!people.has(p)) return UNKNOWN;
        switch (what) {
            case 0: return people.kindOf(p);
            case 1: return people.sideOf(p);
            case 2: return people.ringOf(p);
            case 3: return threes.threeOf(p);
            case 4: return joyOf(p);
            default: return OUTSIDE;
        }
    }

    public int bend(int p, int v) {
        if (!people.has(p)) return UNKNOWN;
        if (v < 1 || v > People.LONGEST) return OUTSIDE;
        if (threes.threeOf(p) != NONE) return STATE;
        int was = people.sideOf(p);
        people.bendTo(p, v);
        most.forget();
        return was;
    }

    // ---- 2 threes

    public int hang(int a, int b, int c) {
        if (!people.has(a) || !people.has(b) || !people.has(c)) return UNKNOWN;
        if (a == b || a == c || b == c) return UNKNOWN;
        int set = 1 << a | 1 << b | 1 << c;
        if ((threes.allHung() & set) != 0 || !people.canHang(set)) return STATE;
        return threes.add(set);
    }

    public int ofThree(int t, int what) {
        if (!threes.has(t)) return UNKNOWN;
        int set = threes.setOf(t);
        switch (what) {
            case 0: return set;
            case 1: return people.pitchOf(set);
            case 2: return people.ringsOf(set);
            case 3: return people.shapeOf(set);
            case 4: return people.cornerOf(set);
            case 5: return threes.leftOf(t);
            default: return OUTSIDE;
        }
    }

    public int strike(int t) {
        if (!threes.has(t)) return UNKNOWN;
        if (threes.leftOf(t) > 0) return STATE;
        int rings = people.ringsOf(threes.setOf(t));
        threes.ringFor(t, rings);
        return rings;
    }

    public int touch(int t) {
        if (!threes.has(t)) return UNKNOWN;
        int left = threes.leftOf(t);
        if (left == 0) return STATE;
        threes.ringFor(t, 0);
        return left;
    }

    public int bars(int n) {
        if (n < 1 || n > 99) return OUTSIDE;
        if (people.count == 0) return STATE;
        threes.goBy(n);
        bar += n;
        return threes.ringing();
    }

    public int leave(int t) {
        if (!threes.has(t)) return UNKNOWN;
        int corner = people.cornerOf(threes.setOf(t));
        threes.drop(t);
        return corner;
    }

    public int season(int sheet, int lane, int i, int n, int what) {
        fault = 0;
        Sheet row = sheetAt(sheet);
        if (row == null) return UNKNOWN;
        if (!isLane(lane) || n < 0 || n > Season.LONGEST || what < 0 || what > 4) return OUTSIDE;
        int met = row.faultAs(lane);
        if (met == 0) met = row.faultOfCells(i, 2 * n);
        if (met != 0) return cameTo(met);
        if (people.count == 0) return STATE;
        if (!Season.isAsTold(row, i, n)) return OUTSIDE;
        int wrong = season.play(threes, people, row, i, n);
        if (what == 1) return wrong;
        if (wrong != NONE) return -100 - wrong;
        switch (what) {
            case 0: return season.trial.ringing();
            case 2: return season.rang;
            case 3: return season.trial.allHung();
            default: return season.trial.leftTogether();
        }
    }

    // ---- 3 who can hang

    public int pitched(int v, int k) {
        if (v < 3 || v > 27 || k < -1 || k > 83) return OUTSIDE;
        if (people.count == 0) return STATE;
        int many = 0;
        for (int set = 0; set < people.allSets(); set++) {
            if (people.canHang(set) && people.pitchOf(set) == v) {
                if (many == k) return set;
                many++;
            }
        }
        return k == -1 ? many : NONE;
    }

    public int most(int k) {
        if (k < -2 || k >= People.MOST) return OUTSIDE;
        if (people.count == 0) return STATE;
        most.find(people);
        if (k == -2) return most.made;
        if (k == -1) return most.rings;
        return most.threeOf(k);
    }

    public int rather() {
        if (people.count == 0) return STATE;
        for (int set = 0; set < people.allSets(); set++) {
            if (people.canHang(set) && people.ringsOf(set) > greatestJoy(set)) return set;
        }
        return NONE;
    }

    public int together(int sheet, int lane, int i) {
        fault = 0;
        Sheet row = sheetAt(sheet);
        if (row == null) return UNKNOWN;
        if (!isLane(lane)) return OUTSIDE;
        if (threes.count == 0) return STATE;
        int met = row.faultAs(lane);
        if (met == 0) met = row.faultOfCells(i, threes.count);
        if (met != 0) return cameTo(met);
        for (int t = 0; t < threes.count; t++) {
            if (row.at(i + t) < 0 || row.at(i + t) > 99) return OUTSIDE;
        }
        int pitch = Math.max(1, people.pitchOf(threes.setOf(0)));
        for (int at = row.at(i); at <= 999; at += pitch) {
            if (allAreStruckAt(at, row, i)) return at;
        }
        return NONE;
    }

    // ---- 4 how it rang

    public int reading(int p, int v) {
        if (!people.has(p)) return UNKNOWN;
        if (v < 0 || v > 18) return OUTSIDE;
        if (readings.count >= Readings.MOST) return FULL;
        return readings.add(p, v);
    }

    public int back(int k) {
        if (k < 0 || k > readings.count) return OUTSIDE;
        readings.count -= k;
        return readings.count;
    }

    public int sides(int p) {
        if (!people.has(p)) return UNKNOWN;
        int set = 0;
        for (int side = 1; side <= People.LONGEST; side++) {
            if (readings.areSo(people, p, People.ring(people.kindOf(p), side))) set |= 1 << side;
        }
        return set;
    }

    public int kinds(int p) {
        if (!people.has(p)) return UNKNOWN;
        int set = 0;
        for (int kind = STEEL; kind <= BEATER; kind++) {
            if (readings.areSo(people, p, People.ring(kind, people.sideOf(p)))) set |= 1 << kind;
        }
        return set;
    }

    public long odds(int p, int which) {
        if (p != -1 && !people.has(p)) return LOST;
        if (which < 0 || which > 1) return LOST;
        if (people.count == 0) return LOST;
        int whoMustBe = p == -1 ? 0 : 1 << p;
        int all = 0;
        int can = 0;
        for (int set = 0; set < people.allSets(); set++) {
            if (Integer.bitCount(set) == 3 && (set & whoMustBe) == whoMustBe) {
                all++;
                if (people.canHang(set)) can++;
            }
        }
        return which == 0 ? inLeastTerms(can, all) : inLeastTerms(all, can);
    }

    // ---- 5 sheets, parts

    public int sheet(int k, int lane, int n) {
        fault = 0;
        Sheet row = sheetAt(k);
        if (row == null) return UNKNOWN;
        if (!isLane(lane) || n > Sheet.LONGEST) return OUTSIDE;
        if (n < 0) return cameTo(SIZE);
        row.renew(lane, n);
        return 1;
    }

    public int lose(int k) {
        Sheet row = sheetAt(k);
        if (row == null) return UNKNOWN;
        if (row.isNothing()) return 0;
        row.empty();
        return 1;
    }

    public int put(int k, int i, int v) {
        fault = 0;
        Sheet row = sheetAt(k);
        if (row == null) return UNKNOWN;
        if (row.isNothing()) return cameTo(NULL);
        if (!row.has(i)) return cameTo(INDEX);
        row.become(i, v);
        return 1;
    }

    public long cell(int k, int i, int lane) {
        fault = 0;
        Sheet row = sheetAt(k);
        if (row == null || !isLane(lane)) return LOST;
        fault = row.faultAs(lane);
        if (fault == 0 && !row.has(i)) fault = INDEX;
        return fault == 0 ? row.at(i) : LOST;
    }

    public int copy(int k, int i, int other, int j, int n) {
        fault = 0;
        Sheet from = sheetAt(k);
        Sheet to = sheetAt(other);
        if (from == null || to == null) return UNKNOWN;
        if (from.isNothing() || to.isNothing()) return cameTo(NULL);
        if (from.lane != to.lane) return cameTo(CAST);
        if (from.faultOfCells(i, n) != 0 || to.faultOfCells(j, n) != 0) return cameTo(INDEX);
        System.arraycopy(from.cells, i, to.cells, j, n);
        return n;
    }

    public int tell(int p) {
        if (!people.has(p)) return UNKNOWN;
        switch (people.kindOf(p)) {
            case BEATER: return beaterTells(p);
            case WOOL: return woolTells(p);
            default: return steelTells(p);
        }
    }

    public int count(int p) {
        if (!people.has(p)) return UNKNOWN;
        if (people.kindOf(p) == BEATER) {
            mark(5);
            return 30;
        }
        mark(4);
        return p;
    }

    public int as(int p, int kind) {
        fault = 0;
        if (!people.has(p)) return UNKNOWN;
        if (kind < STEEL || kind > BEATER) return OUTSIDE;
        // Each kind is all the kinds below it, too.
        if (people.kindOf(p) < kind) return cameTo(CAST);
        return 1;
    }

    public int trace() {
        return trace;
    }

    public int fault() {
        return fault;
    }

    public int many(int what) {
        switch (what) {
            case 0: return people.count;
            case 1: return threes.count;
            case 2: return bar;
            case 3: return threes.ringing();
            case 4: return readings.count;
            default: return OUTSIDE;
        }
    }

    // ---- what the calls share

    private Sheet sheetAt(int k) {
        return k < 0 || k >= sheets.length ? null : sheets[k];
    }

    private static boolean isLane(int lane) {
        return lane >= 0 && lane <= 2;
    }

    private int cameTo(int met) {
        fault = met;
        return -10 - met;
    }

    /** The place of the first code of a text that can't be there; NONE: the text is a town's. */
    private static int firstFault(Sheet row, int from, int n) {
        for (int place = 0; place < n; place++) {
            if (!goesOn(place, row.at(from + place))) return place;
        }
        boolean isWhole = n >= 10 && n % 3 == 1;
        return isWhole ? NONE : n;
    }

    private static boolean goesOn(int place, int code) {
        if (place == 0) return code == 't';
        if (place > 3 * People.MOST) return false;
        switch (place % 3) {
            case 1: return code == ';';
            case 2: return People.kindBy(code) != NONE;
            default: return code >= '1' && code <= '9';
        }
    }

    private int joyOf(int p) {
        int t = threes.threeOf(p);
        return t == NONE ? 0 : people.ringsOf(threes.setOf(t));
    }

    private int greatestJoy(int set) {
        int greatest = 0;
        for (int p = 0; p < people.count; p++) {
            if ((set & 1 << p) != 0) greatest = Math.max(greatest, joyOf(p));
        }
        return greatest;
    }

    private boolean allAreStruckAt(int at, Sheet row, int from) {
        for (int t = 0; t < threes.count; t++) {
            int since = at - row.at(from + t);
            int pitch = people.pitchOf(threes.setOf(t));
            if (since < 0 || pitch <= 0 || since % pitch != 0) return false;
        }
        return true;
    }

    /** One number of a share, less all that it has in common with the other one. */
    private static int inLeastTerms(int one, int other) {
        for (int by = Math.max(one, other); by > 1; by--) {
            if (one % by == 0 && other % by == 0) return one / by;
        }
        return one;
    }

    private void mark(int body) {
        trace = 31 * trace + body;
    }

    private int steelTells(int p) {
        mark(1);
        return people.sideOf(p);
    }

    private int woolTells(int p) {
        mark(2);
        return steelTells(p) + 100;
    }

    private int beaterTells(int p) {
        mark(3);
        return woolTells(p) + steelTells(p);
    }

    /** A row of a lane, or nothing. Its cells are made once, so that new rows cost no room. */
    private static final class Sheet {
        private static final int LONGEST = 60;
        private static final int NOTHING = -1;
        private final int[] cells = new int[LONGEST];
        private int lane = 0;
        private int length = NOTHING;

        boolean isNothing() {
            return length == NOTHING;
        }

        void empty() {
            length = NOTHING;
        }

        void renew(int newLane, int newLength) {
            lane = newLane;
            length = Math.max(0, Math.min(newLength, LONGEST));
            for (int i = 0; i < LONGEST; i++) cells[i] = 0;
        }

        boolean has(int i) {
            return i >= 0 && i < length;
        }

        int at(int i) {
            return has(i) ? cells[i] : 0;
        }

        void become(int i, int v) {
            if (!has(i)) return;
            switch (lane) {
                case 0:
                    cells[i] = (byte) v;
                    break;
                case 1:
                    cells[i] = (short) v;
                    break;
                default:
                    cells[i] = v;
            }
        }

        int faultAs(int wanted) {
            if (isNothing()) return NULL;
            return lane == wanted ? 0 : CAST;
        }

        int faultOfCells(int from, int many) {
            if (from < 0 || from > length || many < 0) return INDEX;
            return many > length - from ? INDEX : 0;
        }
    }

    /** Who lives in the town, and what can be told of sets of them. */
    private static final class People {
        private static final int MOST = 9;
        private static final int LONGEST = 9;
        private final int[] kinds = new int[MOST];
        private final int[] sides = new int[MOST];
        private int count = 0;

        static int kindBy(int letter) {
            switch (letter) {
                case 's': return STEEL;
                case 'w': return WOOL;
                case 'b': return BEATER;
                default: return NONE;
            }
        }

        static int ring(int kind, int side) {
            switch (kind) {
                case WOOL: return side / 2;
                case BEATER: return 2 * side;
                default: return side;
            }
        }

        /** By a text that has no fault. */
        void settle(Sheet row, int from, int n) {
            count = Math.max(0, Math.min((n - 1) / 3, MOST));
            for (int p = 0; p < count; p++) {
                kinds[p] = kindBy(row.at(from + 3 * p + 2));
                sides[p] = row.at(from + 3 * p + 3) - '0';
            }
        }

        boolean has(int p) {
            return p >= 0 && p < count;
        }

        int kindOf(int p) {
            return has(p) ? kinds[p] : NONE;
        }

        int sideOf(int p) {
            return has(p) ? sides[p] : 0;
        }

        int ringOf(int p) {
            return has(p) ? ring(kinds[p], sides[p]) : 0;
        }

        void bendTo(int p, int side) {
            if (has(p)) sides[p] = side;
        }

        /** Sets of people are the numbers below this one. */
        int allSets() {
            return 1 << count;
        }

        int pitchOf(int set) {
            int together = 0;
            for (int p = 0; p < count; p++) {
                if ((set & 1 << p) != 0) together += sides[p];
            }
            return together;
        }

        int ringsOf(int set) {
            int together = 0;
            for (int p = 0; p < count; p++) {
                if ((set & 1 << p) != 0) together += ringOf(p);
            }
            return together;
        }

        int cornerOf(int set) {
            int corner = NONE;
            for (int p = 0; p < count; p++) {
                if ((set & 1 << p) != 0 && sides[p] >= sideOf(corner)) corner = p;
            }
            return corner;
        }

        /** How many of three sides are as another one's: none, one pair, or all. */
        int shapeOf(int set) {
            int lengths = 0;
            for (int p = 0; p < count; p++) {
                if ((set & 1 << p) != 0) lengths |= 1 << sides[p];
            }
            return 3 - Integer.bitCount(lengths);
        }

        boolean canHang(int set) {
            // If the longest is shorter than the other two together, so is each of the others.
            return Integer.bitCount(set) == 3 && 2 * sideOf(cornerOf(set)) < pitchOf(set);
        }
    }

    /** The threes that hang, and for how many bars each rings yet. */
    private static final class Threes {
        private static final int MOST = 3;
        private final int[] sets = new int[MOST];
        private final int[] left = new int[MOST];
        private int count = 0;

        void clear() {
            count = 0;
        }

        void become(Threes other) {
            count = other.count;
            for (int t = 0; t < MOST; t++) {
                sets[t] = other.sets[t];
                left[t] = other.left[t];
            }
        }

        boolean has(int t) {
            return t >= 0 && t < count;
        }

        int setOf(int t) {
            return has(t) ? sets[t] : 0;
        }

        int leftOf(int t) {
            return has(t) ? left[t] : 0;
        }

        int threeOf(int p) {
            for (int t = 0; t < count; t++) {
                if ((sets[t] & 1 << p) != 0) return t;
            }
            return NONE;
        }

        int allHung() {
            int all = 0;
            for (int t = 0; t < count; t++) all |= sets[t];
            return all;
        }

        /** Nine people are in three of them at most, so there is always a place. */
        int add(int set) {
            if (count >= MOST) return FULL;
            sets[count] = set;
            left[count] = 0;
            count++;
            return count - 1;
        }

        void ringFor(int t, int bars) {
            if (has(t)) left[t] = bars;
        }

        void goBy(int bars) {
            for (int t = 0; t < count; t++) left[t] = Math.max(0, left[t] - bars);
        }

        void drop(int t) {
            if (!has(t)) return;
            for (int at = t; at + 1 < count; at++) {
                sets[at] = sets[at + 1];
                left[at] = left[at + 1];
            }
            count--;
        }

        int ringing() {
            int many = 0;
            for (int t = 0; t < count; t++) {
                if (left[t] > 0) many++;
            }
            return many;
        }

        int leftTogether() {
            int together = 0;
            for (int t = 0; t < count; t++) together += left[t];
            return together;
        }
    }

    /** A season is acted on threes of its own, so that those of the town stay as they are. */
    private static final class Season {
        private static final int LONGEST = 20;
        private final Threes trial = new Threes();
        private int rang = 0;

        static boolean isAsTold(Sheet row, int from, int n) {
            for (int k = 0; k < n; k++) {
                int first = row.at(from + 2 * k);
                int act = row.at(from + 2 * k + 1);
                int greatest = act == BARS ? 9 : 2;
                if (act < STRUCK || act > LEFT || first < 0 || first > greatest) return false;
            }
            return true;
        }

        /** The first act that can't be; NONE: all can. */
        int play(Threes now, People people, Sheet row, int from, int n) {
            trial.become(now);
            rang = 0;
            for (int k = 0; k < n; k++) {
                int first = row.at(from + 2 * k);
                int act = row.at(from + 2 * k + 1);
                if (!canBe(first, act)) return k;
                perform(people, first, act);
            }
            return NONE;
        }

        private boolean canBe(int first, int act) {
            switch (act) {
                case STRUCK: return trial.has(first) && trial.leftOf(first) == 0;
                case TOUCHED: return trial.has(first) && trial.leftOf(first) > 0;
                case LEFT: return trial.has(first);
                default: return true;
            }
        }

        private void perform(People people, int first, int act) {
            switch (act) {
                case STRUCK:
                    trial.ringFor(first, people.ringsOf(trial.setOf(first)));
                    break;
                case TOUCHED:
                    trial.ringFor(first, 0);
                    break;
                case LEFT:
                    trial.drop(first);
                    break;
                default:
                    for (int k = 0; k < first; k++) passBar();
            }
        }

        private void passBar() {
            if (trial.ringing() > 0) rang++;
            trial.goBy(1);
        }
    }

    /** The most threes that can hang at once; kept until somebody's side is another. */
    private static final class Most {
        private static final int IN_NONE = 9;
        private static final long NOBODY_HANGS = 0x999999999L;
        private boolean isKnown = false;
        private int made = 0;
        private int rings = 0;
        /** Four bits for each person, person 0's the highest, so that the first row is the least number. */
        private long row = NOBODY_HANGS;

        void forget() {
            isKnown = false;
        }

        void find(People people) {
            if (isKnown) return;
            made = 0;
            rings = 0;
            row = NOBODY_HANGS;
            place(people, people.allSets() - 1, 0, 0, NOBODY_HANGS);
            isKnown = true;
        }

        int threeOf(int p) {
            int three = (int) (row >> placeOf(p)) & 15;
            return three == IN_NONE ? NONE : three;
        }

        /** Each level takes the first of the people who wait, so there are at most ten of them. */
        private void place(People people, int waiting, int hung, int rung, long line) {
            if (hung + Integer.bitCount(waiting) / 3 < made) return;
            if (waiting == 0) {
                keepIfBetter(hung, rung, line);
                return;
            }
            int first = Integer.lowestOneBit(waiting);
            int others = waiting & ~first;
            for (int b = 0; b < people.count; b++) {
                if ((others & 1 << b) == 0) continue;
                for (int c = b + 1; c < people.count; c++) {
                    int set = first | 1 << b | 1 << c;
                    if ((others & 1 << c) != 0 && people.canHang(set)) {
                        place(people, waiting & ~set, hung + 1, rung + people.ringsOf(set), write(line, set, hung));
                    }
                }
            }
            place(people, others, hung, rung, line);
        }

        private static long write(long line, int set, int three) {
            long written = line;
            for (int p = 0; p < People.MOST; p++) {
                if ((set & 1 << p) != 0) written -= (long) (IN_NONE - three) << placeOf(p);
            }
            return written;
        }

        private static int placeOf(int p) {
            return 4 * (People.MOST - 1 - p);
        }

        private void keepIfBetter(int hung, int rung, long line) {
            if (hung < made) return;
            if (hung == made && rung < rings) return;
            if (hung == made && rung == rings && line >= row) return;
            made = hung;
            rings = rung;
            row = line;
        }
    }

    /** What was heard: whose ring it was, and how long. */
    private static final class Readings {
        private static final int MOST = 8;
        private final int[] whose = new int[MOST];
        private final int[] heard = new int[MOST];
        private int count = 0;

        void clear() {
            count = 0;
        }

        int add(int p, int v) {
            if (count >= MOST) return FULL;
            whose[count] = p;
            heard[count] = v;
            count++;
            return count - 1;
        }

        /** Whether all are so, if p's ring were as told and all else as it is. */
        boolean areSo(People people, int p, int ringOfP) {
            for (int k = 0; k < count; k++) {
                int ring = whose[k] == p ? ringOfP : people.ringOf(whose[k]);
                if (ring != heard[k]) return false;
            }
            return true;
        }
    }
}
