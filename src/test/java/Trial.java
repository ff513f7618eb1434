/** An object in which all that a call could change is not as at first, and the arguments of one call on it. */
final class Trial {
    /** 8 PEOPLE, of whom 0 1 2 can HANG, 3 4 5 can, and 0 6 7 just can't. */
    static final String TEXT = "t;s3;w4;b5;s9;w9;b9;s2;s1";

    interface Call {
        long on(StruckThrees x, int[] args);
    }

    interface Setting {
        void in(Trial trial);
    }

    int[] args;
    boolean hasTown = true;
    /** THREE 0 is 3 4 5 and RINGS, THREE 1 is 0 1 2 and does not. */
    int threes = 2;
    int readings = 2;
    /** What SHEET 1 has; SHEET 0 has the TEXT as bytes, SHEET 2 three shorts, SHEET 3 nothing. */
    int lane = 2;
    int[] row = {0, 1, 3, 2, 1, 0, 1, 3};

    Trial(int... args) {
        this.args = args.clone();
    }

    /** The FAULT ahead of the call is another than the one that is due behind it. */
    StruckThrees made(int faultAhead) {
        StruckThrees x = new StruckThrees();
        Due.text(x, 0, 0, TEXT);
        Due.row(x, 1, lane, row);
        Due.row(x, 2, 1, 7, 300, -9);
        if (hasTown) settle(x);
        if (faultAhead == 1) Due.due("a NULL ahead", x.put(3, 0, 0), -11);
        else Due.due("a SIZE ahead", x.sheet(0, 0, -1), -14);
        return x;
    }

    private void settle(StruckThrees x) {
        Due.due("town ahead", x.town(0, 0, 0, TEXT.length()), 8);
        if (threes > 0) Due.due("hang ahead", x.hang(3, 4, 5), 0);
        if (threes > 1) Due.due("hang ahead", x.hang(0, 1, 2), 1);
        if (threes > 0) Due.due("strike ahead", x.strike(0), 31);
        Due.due("bars ahead", x.bars(3), threes > 0 ? 1 : 0);
        for (int k = 0; k < readings; k++) {
            Due.due("reading ahead", k % 2 == 0 ? x.reading(1, 2) : x.reading(6, 2), k);
        }
        Due.due("tell ahead", x.tell(1), 104);
    }
}
