import java.util.ArrayList;
import java.util.Arrays;
import java.util.List;

/** The ways in which one call is refused or comes to a FAULT, in the order in which the document tells them. */
final class Ways {
    static final int UNKNOWN = -1, OUTSIDE = -2, STATE = -3, FULL = -4;
    static final int NULL = -11, CAST = -12, INDEX = -13, SIZE = -14;

    private record Way(int answer, Trial.Setting setting) {
    }

    private final String name;
    private final Trial.Call call;
    private final int[] args;
    private final List<Way> ways = new ArrayList<>();
    private boolean namesFaults = false;
    private boolean answersLong = false;
    private Trial.Setting first = trial -> { };

    /** The arguments are such that the call is taken. */
    Ways(String name, Trial.Call call, int... args) {
        this.name = name;
        this.call = call;
        this.args = args;
    }

    Ways namesFaults() {
        namesFaults = true;
        return this;
    }

    Ways answersLong() {
        answersLong = true;
        return this;
    }

    /** How all is made ahead of each trial, where it is not as Trial tells. */
    Ways with(Trial.Setting setting) {
        first = setting;
        return this;
    }

    /** This is answered where one argument is any of these. */
    Ways arg(int answer, int which, int... values) {
        for (int v : values) ways.add(new Way(answer, trial -> trial.args[which] = v));
        return this;
    }

    /** This is answered where the arguments are these. */
    Ways args(int answer, int... values) {
        ways.add(new Way(answer, trial -> trial.args = values.clone()));
        return this;
    }

    Ways when(int answer, Trial.Setting setting) {
        ways.add(new Way(answer, setting));
        return this;
    }

    /** As it is it is taken; each way alone, and each two at once: the one that is told first. */
    void hold(long taken) {
        Trial plain = trial();
        StruckThrees x = plain.made(4);
        Due.due(name + Arrays.toString(args), call.on(x, args), taken);
        Due.due("fault() of a " + name + " that is taken", x.fault(), namesFaults ? 0 : 4);
        for (int one = 0; one < ways.size(); one++) {
            hold(ways.get(one), ways.get(one));
            for (int other = one + 1; other < ways.size(); other++) {
                // Two that answer the same have no order.
                if (ways.get(one).answer != ways.get(other).answer) hold(ways.get(one), ways.get(other));
            }
        }
    }

    private Trial trial() {
        Trial trial = new Trial(args);
        first.in(trial);
        return trial;
    }

    private void hold(Way one, Way other) {
        Trial trial = trial();
        // What is told first is set last, so that it stands where both are about the same.
        other.setting.in(trial);
        one.setting.in(trial);
        int fault = one.answer <= NULL && one.answer >= SIZE ? -10 - one.answer : 0;
        int ahead = fault == 4 ? 1 : 4;
        StruckThrees x = trial.made(ahead), twin = trial.made(ahead);
        String what = name + Arrays.toString(trial.args) + " (" + one.answer + " ahead of " + other.answer + ")";
        Due.due(what, call.on(x, trial.args), answersLong ? StruckThrees.LOST : one.answer);
        Due.due("fault() behind " + what, x.fault(), namesFaults ? fault : ahead);
        Told.same(what, x, twin);
    }
}
