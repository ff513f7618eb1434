import java.util.ArrayList;
import java.util.List;

/** All that an object tells of itself. An object is told once: its READINGS are taken back on the way. */
final class Told {
    private final List<String> calls = new ArrayList<>();
    private final List<Long> answers = new ArrayList<>();

    private Told() {
    }

    /** Of two objects on which the same was done, up to a call that should have changed nothing on one of them. */
    static void same(String behind, StruckThrees x, StruckThrees twin) {
        Told one = of(x), other = of(twin);
        for (int k = 0; k < Math.max(one.calls.size(), other.calls.size()); k++) {
            if (k >= one.calls.size() || k >= other.calls.size() || !one.calls.get(k).equals(other.calls.get(k))) {
                Due.due("how much there is to tell behind " + behind, one.calls.size(), other.calls.size());
                return;
            }
            Due.due(one.calls.get(k) + " behind " + behind, one.answers.get(k), other.answers.get(k));
        }
    }

    private static Told of(StruckThrees x) {
        Told told = new Told();
        told.ofTown(x);
        told.ofReadings(x);
        for (int k = 0; k < 4; k++) told.ofSheet(x, k);
        return told;
    }

    private void add(String call, long answer) {
        calls.add(call);
        answers.add(answer);
    }

    private void ofTown(StruckThrees x) {
        add("trace()", x.trace());
        for (int what = 0; what <= 4; what++) add("many(" + what + ")", x.many(what));
        for (int p = 0; p < 9; p++) {
            for (int what : new int[] {0, 1, 3}) add("ofPerson(" + p + ", " + what + ")", x.ofPerson(p, what));
        }
        for (int t = 0; t < 3; t++) {
            for (int what : new int[] {0, 5}) add("ofThree(" + t + ", " + what + ")", x.ofThree(t, what));
        }
        for (int k = -2; k <= 8; k++) add("most(" + k + ")", x.most(k));
        add("rather()", x.rather());
    }

    private void ofReadings(StruckThrees x) {
        int many = x.many(4);
        for (int left = many; left >= 0; left--) {
            for (int p = 0; p < 9; p++) {
                add("sides(" + p + ") by " + left + " READINGS", x.sides(p));
                add("kinds(" + p + ") by " + left + " READINGS", x.kinds(p));
            }
            add("back to " + left, x.back(1));
        }
    }

    private void ofSheet(StruckThrees x, int k) {
        int lane = 0;
        x.cell(k, 0, lane);
        while (x.fault() == 2 && lane < 2) x.cell(k, 0, ++lane);
        add("lane of SHEET " + k, lane);
        for (int i = 0; i <= 60; i++) {
            add("cell " + i + " of SHEET " + k, x.cell(k, i, lane));
            if (x.fault() != 0) break;
        }
        add("what is behind the last cell of SHEET " + k, x.fault());
    }
}
