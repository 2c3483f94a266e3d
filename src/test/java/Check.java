/** Counts and prints the answers that are not as due; the tests share it. */
final class Check {
    private static int wrong = 0;
    private static int asked = 0;

    private Check() {
    }

    static void due(String call, long got, long want) {
        asked++;
        if (got != want) {
            wrong++;
            if (wrong <= 50) {
                System.out.println(call + " answered " + got + ", due is " + want);
            }
        }
    }

    static void holds(String what, boolean isSo) {
        asked++;
        if (!isSo) {
            wrong++;
            if (wrong <= 50) {
                System.out.println("does not hold: " + what);
            }
        }
    }

    /** All that can be read of the shed's state, to see that a refused call changes nothing. */
    static String stateOf(LoomShed x) {
        StringBuilder text = new StringBuilder();
        for (int what = 0; what <= 5; what++) {
            text.append(x.count(what)).append(' ');
        }
        for (int piece = 0; piece < x.count(1); piece++) {
            for (int what = 0; what <= 6; what++) {
                text.append(x.told(piece, what)).append(' ');
            }
        }
        return text.toString();
    }

    /** The state and what is known of it, in some 200 calls at most. */
    static String viewOf(LoomShed x) {
        StringBuilder text = new StringBuilder(stateOf(x));
        for (int k = 0; k <= x.count(2); k++) {
            text.append(x.moment(k)).append(' ');
        }
        text.append(x.most()).append(' ').append(x.cuts()).append(' ').append(x.fewest());
        for (int what = 0; what <= 2; what++) {
            text.append(' ').append(x.crowded(what));
        }
        for (int what = 0; what <= 1; what++) {
            text.append(' ').append(x.speed(what)).append(' ').append(x.days(2, what));
            text.append(' ').append(x.level(0, what));
        }
        return text.toString();
    }

    static void finish() {
        System.out.println(wrong == 0
                ? "all " + asked + " answers are as due"
                : wrong + " of " + asked + " answers are not as due");
        if (wrong != 0) {
            System.exit(1);
        }
    }
}
