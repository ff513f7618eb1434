/** What the project's own tests share: a count of wrong answers, and ways to fill sheets. */
final class Due {
    private static int wrong = 0;
    private static int asked = 0;

    private Due() {
    }

    static void due(String call, long got, long want) {
        asked++;
        if (got != want) {
            wrong++;
            System.out.println(call + " answered " + got + ", due is " + want);
        }
    }

    /** Prints how it went, and ends with exit code 1 if an answer was wrong. */
    static void finish() {
        System.out.println(wrong == 0 ? asked + " answers are as due" : wrong + " of " + asked + " answers are not as due");
        if (wrong != 0 || asked == 0) System.exit(1);
    }

    /** A new row of a sheet with these numbers. */
    static void row(StruckThrees x, int k, int lane, int... numbers) {
        due("sheet for a row", x.sheet(k, lane, numbers.length), 1);
        for (int i = 0; i < numbers.length; i++) due("put of a row", x.put(k, i, numbers[i]), 1);
    }

    static void text(StruckThrees x, int k, int lane, String text) {
        int[] codes = new int[text.length()];
        for (int i = 0; i < codes.length; i++) codes[i] = text.charAt(i);
        row(x, k, lane, codes);
    }

    /** What town answers to a text that is all of sheet 0. */
    static int settle(StruckThrees x, String text) {
        text(x, 0, 0, text);
        return x.town(0, 0, 0, text.length());
    }

    /** A new object with a town that must be taken. */
    static StruckThrees townOf(String text) {
        StruckThrees x = new StruckThrees();
        due("town of " + text, settle(x, text), (text.length() - 1) / 3);
        return x;
    }
}
