/** Counts and prints the answers that are not as due; the tests share it. */
final class Check {
    private static int wrong = 0;
    private static int asked = 0;

    private Check() {
    }

    static void due(String call, long got, long want) {
        asked++;
        if (got != want) {
            wrong++;
            if (wrong <= 50) {
                System.out.println(call + " answered " + got + ", due is " + want);
            }
        }
    }

    static void holds(String what, boolean isSo) {
        asked++;
        if (!isSo) {
            wrong++;
            System.out.println("does not hold: " + what);
        }
    }

    /** All that can be read of the shed's state, to see that a refused call changes nothing. */
    static String stateOf(LoomShed x) {
        StringBuilder text = new StringBuilder();
        for (int what = 0; what <= 5; what++) {
            text.append(x.count(what)).append(' ');
        }
        for (int piece = 0; piece < x.count(1); piece++) {
            for (int what = 0; what <= 6; what++) {
                text.append(x.told(piece, what)).append(' ');
            }
        }
        return text.toString();
    }

    static void finish() {
        System.out.println(wrong == 0
                ? "all " + asked + " answers are as due"
                : wrong + " of " + asked + " answers are not as due");
        if (wrong != 0) {
            System.exit(1);
        }
    }
}
