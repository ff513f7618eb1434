import java.lang.reflect.Array;
import java.util.ArrayList;
import java.util.Arrays;
import java.util.List;
import java.util.TreeMap;
import java.util.TreeSet;
import java.util.regex.Matcher;
import java.util.regex.Pattern;

/** All promises: long runs of calls, each answer held against a second program that works by other means. */
public final class ModelTest {
    /** A step makes at most 60 calls, so that no object gets more than 512. */
    private static final int RUNS = 4000, CALLS = 450;
    private static final int[] ODD = {-1, -2, 4, 9, 10, 60, 61, 99, 100, Integer.MAX_VALUE, Integer.MIN_VALUE};
    private static long seed = 20261118L;
    private static int made = 0;
    private static final TreeSet<String> seen = new TreeSet<>();

    public static void main(String[] args) {
        for (int run = 0; run < RUNS; run++) {
            StruckThrees x = new StruckThrees();
            Model m = new Model();
            made = 0;
            while (made < CALLS) step(x, m);
        }
        Due.due("how many of the methods were called", seen.size(), 30);
        Due.finish();
    }

    private static int below(int n) {
        seed = seed * 6364136223846793005L + 1442695040888963407L;
        return (int) ((seed >>> 33) % n);
    }

    /** Mostly from .. to, now and then a number that is nowhere near. */
    private static int about(int from, int to) {
        if (below(40) == 0) return ODD[below(ODD.length)];
        return from + below(to - from + 1);
    }

    private static void same(String call, long got, long want) {
        made++;
        seen.add(call.substring(0, call.indexOf('(')));
        Due.due(call, got, want);
    }

    private static void step(StruckThrees x, Model m) {
        if (m.people.isEmpty() ? below(3) == 0 : below(150) == 0) {
            writeText(x, m);
            return;
        }
        if (below(12) == 0) {
            writePairs(x, m);
            return;
        }
        int call = below(30);
        if (call < 11) stepOfThrees(call, x, m);
        else if (call < 19) stepOfTelling(call, x, m);
        else stepOfSheets(call, x, m);
    }

    private static void stepOfThrees(int call, StruckThrees x, Model m) {
        int a = about(-1, 9), b = about(0, 9), c = about(0, 8), t = about(0, 2);
        switch (call) {
            case 0: same("ofPerson(" + a + "," + b + ")", x.ofPerson(a, b / 2), m.ofPerson(a, b / 2)); break;
            case 1: same("bend(" + a + "," + b + ")", x.bend(a, b), m.bend(a, b)); break;
            case 2: case 3: case 4:
                same("hang(" + a + "," + b + "," + c + ")", x.hang(a, b, c), m.hang(a, b, c));
                break;
            case 5: same("ofThree(" + t + "," + a + ")", x.ofThree(t, a), m.ofThree(t, a)); break;
            case 6: case 7: same("strike(" + t + ")", x.strike(t), m.strike(t)); break;
            case 8: same("touch(" + t + ")", x.touch(t), m.touch(t)); break;
            case 9: same("bars(" + b + ")", x.bars(b), m.bars(b)); break;
            default: if (below(3) == 0) same("leave(" + t + ")", x.leave(t), m.leave(t));
        }
    }

    private static void stepOfTelling(int call, StruckThrees x, Model m) {
        int p = about(-1, 9), k = about(-1, 3), v = about(2, 28), lane = about(0, 2), i = about(0, 6), s = about(0, 3);
        switch (call) {
            case 11: same("pitched(" + v + "," + k + ")", x.pitched(v, k), m.pitched(v, k)); break;
            case 12:
                int q = about(-2, 8);
                same("most(" + q + ")", x.most(q), m.most(q));
                break;
            case 13: same("rather()", x.rather(), m.rather()); break;
            case 14: same("together(" + s + "," + lane + "," + i + ")", x.together(s, lane, i), m.together(s, lane, i)); break;
            case 15: same("reading(" + p + "," + v + ")", x.reading(p, v / 2), m.reading(p, v / 2)); break;
            case 16: same("back(" + k + ")", x.back(k), m.back(k)); break;
            case 17:
                same("sides(" + p + ")", x.sides(p), m.sides(p));
                same("kinds(" + p + ")", x.kinds(p), m.kinds(p));
                break;
            default: same("odds(" + p + "," + k + ")", x.odds(p, k), m.odds(p, k));
        }
    }

    private static void stepOfSheets(int call, StruckThrees x, Model m) {
        int k = about(0, 3), lane = about(0, 2), i = about(0, 12), j = about(0, 12), n = about(0, 12), p = about(-1, 9);
        switch (call) {
            case 19: same("sheet(" + k + "," + lane + "," + n + ")", x.sheet(k, lane, n), m.sheet(k, lane, n)); break;
            case 20: if (below(4) == 0) same("lose(" + k + ")", x.lose(k), m.lose(k)); break;
            case 21: case 22:
                int v = below(2) == 0 ? (int) seed : about(0, 99);
                same("put(" + k + "," + i + "," + v + ")", x.put(k, i, v), m.put(k, i, v));
                break;
            case 23: same("cell(" + k + "," + i + "," + lane + ")", x.cell(k, i, lane), m.cell(k, i, lane)); break;
            case 24:
                same("copy(" + k + "," + i + "," + lane + "," + j + "," + n + ")", x.copy(k, i, lane, j, n), m.copy(k, i, lane, j, n));
                break;
            case 25: same("tell(" + p + ")", x.tell(p), m.tell(p)); break;
            case 26: same("count(" + p + ")", x.count(p), m.count(p)); break;
            case 27: same("as(" + p + "," + lane + ")", x.as(p, lane), m.as(p, lane)); break;
            case 28:
                same("trace()", x.trace(), m.trace);
                same("fault()", x.fault(), m.fault);
                break;
            default: for (int what = -1; what <= 5; what++) same("many(" + what + ")", x.many(what), m.many(what));
        }
    }

    private static void writeRow(StruckThrees x, Model m, int k, int lane, int... row) {
        same("sheet(" + k + "," + lane + "," + row.length + ")", x.sheet(k, lane, row.length), m.sheet(k, lane, row.length));
        for (int i = 0; i < row.length; i++) same("put(" + k + "," + i + "," + row[i] + ")", x.put(k, i, row[i]), m.put(k, i, row[i]));
    }

    private static void writeText(StruckThrees x, Model m) {
        int k = below(4), lane = below(3), people = 3 + below(7), longest = 1 + below(9);
        StringBuilder text = new StringBuilder("t");
        for (int p = 0; p < people; p++) text.append(';').append("swb".charAt(below(3))).append(1 + below(longest));
        if (below(4) == 0) text.setCharAt(below(text.length()), "t;swb0123456789".charAt(below(15)));
        if (below(6) == 0) text.append("t;s1b;".charAt(below(6)));
        writeRow(x, m, k, lane, text.chars().toArray());
        int i = below(8) == 0 ? about(0, 3) : 0, n = below(8) == 0 ? about(-2, 40) : text.length();
        int as = below(12) == 0 ? about(0, 2) : lane;
        String call = "town(" + k + "," + as + "," + i + "," + n + ")";
        same(call + " of " + text, x.town(k, as, i, n), m.town(k, as, i, n));
        same("fault() of a town", x.fault(), m.fault);
    }

    private static void writePairs(StruckThrees x, Model m) {
        int k = below(4), lane = below(3), pairs = below(5) == 0 ? below(21) : below(6);
        int[] row = new int[2 * pairs];
        for (int at = 0; at < pairs; at++) {
            int act = below(60) == 0 ? about(-1, 4) : below(4);
            row[2 * at + 1] = act;
            row[2 * at] = act == 2 ? about(0, 9) : below(3) == 0 ? below(3) : 0;
        }
        writeRow(x, m, k, lane, row);
        int i = below(12) == 0 ? about(0, 3) : 0, n = below(12) == 0 ? about(-1, 21) : pairs;
        int as = below(12) == 0 ? about(0, 2) : lane;
        for (int what = 0; what <= 4; what++) {
            int asked = below(30) == 0 ? about(-1, 5) : what;
            String call = "season(" + k + "," + as + "," + i + "," + n + "," + asked + ") of " + Arrays.toString(row);
            same(call, x.season(k, as, i, n, asked), m.season(k, as, i, n, asked));
            same("fault() of a season", x.fault(), m.fault);
        }
        same("together(" + k + "," + as + "," + i + ")", x.together(k, as, i), m.together(k, as, i));
    }

    /** Whoever is counted: the body is lent to all who have none of their own. */
    private interface Counted {
        int number();

        Model model();

        default int counted() {
            model().mark(4);
            return number();
        }
    }

    private static class Steel implements Counted {
        final Model model;
        final int number;
        int side;

        Steel(Model model, int number, int side) {
            this.model = model;
            this.number = number;
            this.side = side;
        }

        public int number() {
            return number;
        }

        public Model model() {
            return model;
        }

        int ring() {
            return side;
        }

        int kind() {
            return 0;
        }

        final int steelTells() {
            model.mark(1);
            return side;
        }

        int told() {
            return steelTells();
        }
    }

    private static class Wool extends Steel {
        Wool(Model model, int number, int side) {
            super(model, number, side);
        }

        @Override int ring() {
            return super.ring() >> 1;
        }

        @Override int kind() {
            return 1;
        }

        @Override int told() {
            model.mark(2);
            return super.told() + 100;
        }
    }

    private static final class Beater extends Wool {
        Beater(Model model, int number, int side) {
            super(model, number, side);
        }

        @Override int ring() {
            return side + side;
        }

        @Override int kind() {
            return 2;
        }

        @Override int told() {
            model.mark(3);
            int wool = super.told();
            return wool + steelTells();
        }

        @Override public int counted() {
            model.mark(5);
            return 30;
        }
    }

    private static final class Three {
        final List<Steel> who;
        int left;

        Three(List<Steel> who, int left) {
            this.who = who;
            this.left = left;
        }
    }

    private static final class Model {
        private static final Pattern TEXT = Pattern.compile("t(;[swb][1-9]){3,9}");
        private static final Class<?>[] LANES = {byte[].class, short[].class, int[].class};
        private static final Class<?>[] KINDS = {Steel.class, Wool.class, Beater.class};
        final Object[] rows = new Object[4];
        List<Steel> people = new ArrayList<>();
        List<Three> threes = new ArrayList<>();
        List<int[]> readings = new ArrayList<>();
        int bar, trace, fault;
        String bestRow;
        int bestMany, bestRings;

        void mark(int body) {
            trace = trace * 31 + body;
        }

        Steel born(char kind, int number, int side) {
            return kind == 's' ? new Steel(this, number, side) : kind == 'w' ? new Wool(this, number, side) : new Beater(this, number, side);
        }

        // ---- faults, as the machine would tell them

        int faultOf(int k, int lane) {
            if (rows[k] != null && !LANES[lane].isInstance(rows[k])) return 2;
            return rows[k] == null ? 1 : 0;
        }

        boolean cellsAreThere(Object row, int i, int n) {
            long length = Array.getLength(row);
            return i >= 0 && i <= length && n >= 0 && (long) i + n <= length;
        }

        int told(int f) {
            fault = f;
            return -10 - f;
        }

        boolean noSheet(int k) {
            return k < 0 || k > 3;
        }

        boolean noLane(int lane) {
            return lane < 0 || lane > 2;
        }

        boolean nobody(int p) {
            return p < 0 || p >= people.size();
        }

        int at(int k, int i) {
            return Array.getInt(rows[k], i);
        }

        // ---- 1

        int town(int k, int lane, int i, int n) {
            fault = 0;
            if (noSheet(k)) return -1;
            if (noLane(lane)) return -2;
            if (faultOf(k, lane) != 0) return told(faultOf(k, lane));
            if (n < 0) return told(4);
            if (!cellsAreThere(rows[k], i, n)) return told(3);
            StringBuilder text = new StringBuilder();
            for (int c = 0; c < n; c++) text.append((char) Math.max(0, Math.min(at(k, i + c), 255)));
            for (int c = 0; c < n; c++) {
                Matcher begun = TEXT.matcher(text.substring(0, c + 1));
                if (!begun.matches() && !begun.hitEnd()) return -100 - c;
            }
            if (!TEXT.matcher(text).matches()) return -100 - n;
            people = new ArrayList<>();
            String[] parts = text.substring(2).split(";");
            for (String part : parts) people.add(born(part.charAt(0), people.size(), part.charAt(1) - '0'));
            threes = new ArrayList<>();
            readings = new ArrayList<>();
            bar = 0;
            return parts.length;
        }

        Three threeOf(Steel who) {
            for (Three three : threes) if (three.who.contains(who)) return three;
            return null;
        }

        int joy(Steel who) {
            Three three = threeOf(who);
            return three == null ? 0 : rings(three.who);
        }

        int ofPerson(int p, int what) {
            if (nobody(p)) return -1;
            if (what < 0 || what > 4) return -2;
            Steel who = people.get(p);
            Three three = threeOf(who);
            return new int[] {who.kind(), who.side, who.ring(), three == null ? -9 : threes.indexOf(three), joy(who)}[what];
        }

        int bend(int p, int v) {
            if (nobody(p)) return -1;
            if (v < 1 || v > 9) return -2;
            if (threeOf(people.get(p)) != null) return -3;
            int was = people.get(p).side;
            people.get(p).side = v;
            return was;
        }

        // ---- 2

        static int pitch(List<Steel> who) {
            return who.stream().mapToInt(one -> one.side).sum();
        }

        static int rings(List<Steel> who) {
            return who.stream().mapToInt(Steel::ring).sum();
        }

        static int set(List<Steel> who) {
            return who.stream().mapToInt(one -> 1 << one.number).sum();
        }

        static boolean can(List<Steel> who) {
            int a = who.get(0).side, b = who.get(1).side, c = who.get(2).side;
            return a + b > c && a + c > b && b + c > a;
        }

        static Steel corner(List<Steel> who) {
            Steel corner = who.get(0);
            for (Steel one : who) {
                if (one.side > corner.side || one.side == corner.side && one.number > corner.number) corner = one;
            }
            return corner;
        }

        static int shape(List<Steel> who) {
            int a = who.get(0).side, b = who.get(1).side, c = who.get(2).side;
            int alike = (a == b ? 1 : 0) + (b == c ? 1 : 0) + (a == c ? 1 : 0);
            return alike == 3 ? 2 : alike;
        }

        int hang(int a, int b, int c) {
            if (nobody(a) || nobody(b) || nobody(c)) return -1;
            List<Steel> who = List.of(people.get(a), people.get(b), people.get(c));
            if (a == b || b == c || a == c) return -1;
            for (Steel one : who) if (threeOf(one) != null) return -3;
            if (!can(who)) return -3;
            threes.add(new Three(who, 0));
            return threes.size() - 1;
        }

        int ofThree(int t, int what) {
            if (t < 0 || t >= threes.size()) return -1;
            if (what < 0 || what > 5) return -2;
            List<Steel> who = threes.get(t).who;
            return new int[] {set(who), pitch(who), rings(who), shape(who), corner(who).number, threes.get(t).left}[what];
        }

        int strike(int t) {
            if (t < 0 || t >= threes.size()) return -1;
            if (threes.get(t).left > 0) return -3;
            return threes.get(t).left = rings(threes.get(t).who);
        }

        int touch(int t) {
            if (t < 0 || t >= threes.size()) return -1;
            if (threes.get(t).left == 0) return -3;
            int left = threes.get(t).left;
            threes.get(t).left = 0;
            return left;
        }

        boolean passBar(List<Three> all) {
            boolean rang = false;
            for (Three three : all) {
                if (three.left > 0) {
                    three.left--;
                    rang = true;
                }
            }
            return rang;
        }

        static int ringing(List<Three> all) {
            return (int) all.stream().filter(three -> three.left > 0).count();
        }

        int bars(int n) {
            if (n < 1 || n > 99) return -2;
            if (people.isEmpty()) return -3;
            for (int k = 0; k < n; k++) passBar(threes);
            bar += n;
            return ringing(threes);
        }

        int leave(int t) {
            if (t < 0 || t >= threes.size()) return -1;
            return corner(threes.remove(t).who).number;
        }

        int season(int k, int lane, int i, int n, int what) {
            fault = 0;
            if (noSheet(k)) return -1;
            if (noLane(lane) || n < 0 || n > 20 || what < 0 || what > 4) return -2;
            if (faultOf(k, lane) != 0) return told(faultOf(k, lane));
            if (!cellsAreThere(rows[k], i, 2 * n)) return told(3);
            if (people.isEmpty()) return -3;
            for (int at = i; at < i + 2 * n; at += 2) {
                int first = at(k, at), second = at(k, at + 1);
                if (!List.of(0, 1, 2, 3).contains(second)) return -2;
                if (first < 0 || first > (second == 2 ? 9 : 2)) return -2;
            }
            List<Three> trial = new ArrayList<>();
            for (Three three : threes) trial.add(new Three(three.who, three.left));
            int rang = 0;
            for (int at = 0; at < n; at++) {
                int first = at(k, i + 2 * at), second = at(k, i + 2 * at + 1);
                if (second == 2) {
                    for (int b = 0; b < first; b++) rang += passBar(trial) ? 1 : 0;
                    continue;
                }
                boolean wrong = first >= trial.size() || second != 3 && trial.get(first).left > 0 == (second == 0);
                if (wrong) return what == 1 ? at : -100 - at;
                if (second == 3) trial.remove(first);
                else trial.get(first).left = second == 0 ? rings(trial.get(first).who) : 0;
            }
            int hung = trial.stream().mapToInt(three -> set(three.who)).sum();
            int left = trial.stream().mapToInt(three -> three.left).sum();
            return new int[] {ringing(trial), -9, rang, hung, left}[what];
        }

        // ---- 3

        List<List<Steel>> allThrees() {
            TreeMap<Integer, List<Steel>> all = new TreeMap<>();
            for (Steel a : people) {
                for (Steel b : people) {
                    for (Steel c : people) {
                        if (a.number < b.number && b.number < c.number) all.put(set(List.of(a, b, c)), List.of(a, b, c));
                    }
                }
            }
            return new ArrayList<>(all.values());
        }

        int pitched(int v, int k) {
            if (v < 3 || v > 27 || k < -1 || k > 83) return -2;
            if (people.isEmpty()) return -3;
            List<Integer> sets = new ArrayList<>();
            for (List<Steel> who : allThrees()) if (can(who) && pitch(who) == v) sets.add(set(who));
            return k == -1 ? sets.size() : k < sets.size() ? sets.get(k) : -9;
        }

        int most(int k) {
            if (k < -2 || k > 8) return -2;
            if (people.isEmpty()) return -3;
            bestRow = "9".repeat(people.size());
            bestMany = 0;
            bestRings = 0;
            assign("", new int[3], new int[3], new int[3], 0);
            if (k == -2) return bestMany;
            if (k == -1) return bestRings;
            if (nobody(k) || bestRow.charAt(k) == '9') return -9;
            return bestRow.charAt(k) - '0';
        }

        /** Person by person, so that rows come in their order, and the first of the best is kept. */
        void assign(String row, int[] size, int[] sum, int[] longest, int rung) {
            int p = row.length();
            int begun = 0, missing = 0;
            for (int t = 0; t < 3; t++) {
                if (size[t] > 0) {
                    begun++;
                    missing += 3 - size[t];
                }
            }
            if (missing > people.size() - p) return;
            if (p == people.size()) {
                for (int t = 0; t < begun; t++) if (sum[t] - longest[t] <= longest[t]) return;
                if (begun > bestMany || begun == bestMany && rung > bestRings) {
                    bestMany = begun;
                    bestRings = rung;
                    bestRow = row;
                }
                return;
            }
            Steel who = people.get(p);
            for (int t = 0; t <= Math.min(begun, 2); t++) {
                if (size[t] == 3) continue;
                int[] newSize = size.clone(), newSum = sum.clone(), newLongest = longest.clone();
                newSize[t]++;
                newSum[t] += who.side;
                newLongest[t] = Math.max(newLongest[t], who.side);
                assign(row + t, newSize, newSum, newLongest, rung + who.ring());
            }
            assign(row + "9", size, sum, longest, rung);
        }

        int rather() {
            if (people.isEmpty()) return -3;
            for (List<Steel> who : allThrees()) {
                if (can(who) && who.stream().allMatch(one -> joy(one) < rings(who))) return set(who);
            }
            return -9;
        }

        int together(int k, int lane, int i) {
            fault = 0;
            if (noSheet(k)) return -1;
            if (noLane(lane)) return -2;
            if (threes.isEmpty()) return -3;
            if (faultOf(k, lane) != 0) return told(faultOf(k, lane));
            if (!cellsAreThere(rows[k], i, threes.size())) return told(3);
            TreeSet<Integer> bars = new TreeSet<>();
            for (int b = 0; b <= 999; b++) bars.add(b);
            for (int t = 0; t < threes.size(); t++) if (at(k, i + t) < 0 || at(k, i + t) > 99) return -2;
            for (int t = 0; t < threes.size(); t++) {
                TreeSet<Integer> its = new TreeSet<>();
                for (int b = at(k, i + t); b <= 999; b += pitch(threes.get(t).who)) its.add(b);
                bars.retainAll(its);
            }
            return bars.isEmpty() ? -9 : bars.first();
        }

        // ---- 4

        int reading(int p, int v) {
            if (nobody(p)) return -1;
            if (v < 0 || v > 18) return -2;
            if (readings.size() == 8) return -4;
            readings.add(new int[] {p, v});
            return readings.size() - 1;
        }

        int back(int k) {
            if (k < 0 || k > readings.size()) return -2;
            readings = new ArrayList<>(readings.subList(0, readings.size() - k));
            return readings.size();
        }

        boolean allSo() {
            return readings.stream().allMatch(r -> people.get(r[0]).ring() == r[1]);
        }

        int sides(int p) {
            if (nobody(p)) return -1;
            int was = people.get(p).side, set = 0;
            for (int side = 1; side <= 9; side++) {
                people.get(p).side = side;
                if (allSo()) set += 1 << side;
            }
            people.get(p).side = was;
            return set;
        }

        int kinds(int p) {
            if (nobody(p)) return -1;
            Steel was = people.get(p);
            int set = 0;
            for (int kind = 0; kind < 3; kind++) {
                people.set(p, born("swb".charAt(kind), p, was.side));
                if (allSo()) set += 1 << kind;
            }
            people.set(p, was);
            return set;
        }

        long odds(int p, int which) {
            if (p != -1 && nobody(p) || which < 0 || which > 1 || people.isEmpty()) return Long.MIN_VALUE;
            int can = 0, all = 0;
            for (List<Steel> who : allThrees()) {
                if (p != -1 && !who.contains(people.get(p))) continue;
                all++;
                if (can(who)) can++;
            }
            int a = can, b = all;
            while (b != 0) {
                int rest = a % b;
                a = b;
                b = rest;
            }
            return which == 0 ? can / a : all / a;
        }

        // ---- 5

        int sheet(int k, int lane, int n) {
            fault = 0;
            if (noSheet(k)) return -1;
            if (noLane(lane) || n > 60) return -2;
            if (n < 0) return told(4);
            rows[k] = Array.newInstance(LANES[lane].getComponentType(), n);
            return 1;
        }

        int lose(int k) {
            if (noSheet(k)) return -1;
            int had = rows[k] == null ? 0 : 1;
            rows[k] = null;
            return had;
        }

        int put(int k, int i, int v) {
            fault = 0;
            if (noSheet(k)) return -1;
            if (rows[k] == null) return told(1);
            if (i < 0 || i >= Array.getLength(rows[k])) return told(3);
            if (rows[k] instanceof byte[] bytes) bytes[i] = (byte) v;
            if (rows[k] instanceof short[] shorts) shorts[i] = (short) v;
            if (rows[k] instanceof int[] ints) ints[i] = v;
            return 1;
        }

        long cell(int k, int i, int lane) {
            fault = 0;
            if (noSheet(k) || noLane(lane)) return Long.MIN_VALUE;
            fault = faultOf(k, lane);
            if (fault == 0 && (i < 0 || i >= Array.getLength(rows[k]))) fault = 3;
            return fault == 0 ? at(k, i) : Long.MIN_VALUE;
        }

        int copy(int k, int i, int other, int j, int n) {
            fault = 0;
            if (noSheet(k) || noSheet(other)) return -1;
            if (rows[k] == null || rows[other] == null) return told(1);
            if (rows[k].getClass() != rows[other].getClass()) return told(2);
            if (!cellsAreThere(rows[k], i, n) || !cellsAreThere(rows[other], j, n)) return told(3);
            System.arraycopy(rows[k], i, rows[other], j, n);
            return n;
        }

        int tell(int p) {
            return nobody(p) ? -1 : people.get(p).told();
        }

        int count(int p) {
            return nobody(p) ? -1 : people.get(p).counted();
        }

        int as(int p, int kind) {
            fault = 0;
            if (nobody(p)) return -1;
            if (kind < 0 || kind > 2) return -2;
            return KINDS[kind].isInstance(people.get(p)) ? 1 : told(2);
        }

        int many(int what) {
            if (what < 0 || what > 4) return -2;
            return new int[] {people.size(), threes.size(), bar, ringing(threes), readings.size()}[what];
        }
    }
}
