/** Boundary cases of promises 18 to 22: what least would do. */
final class LeastBoundaries {
    private LeastBoundaries() {
    }

    static void all() {
        promise18_1To12();
        promise18_none();
        promise19_0To200();
        promise19_eachLastIsPutOff();
        promise19_none();
        promise20_leastFraction();
        promise20_fractions();
        promise20_refusals();
        promise21_level();
        promise21_whollyInTheSpan();
        promise21_takenOutOfTime();
        promise21_refusals();
        promise22_nAndWhat();
        promise22_leastLatestEnd();
        promise22_firstByDays();
        promise22_not();
    }

    private static void says(int promise, String words) {
        BoundaryTest.says(promise, words);
    }

    private static void run(String... rows) {
        BoundaryTest.run(rows);
    }

    private static void promise18_1To12() {
        says(18, "FEWEST: the least number of LOOMS (1 .. 12) with which ALL FIT.");
        run("fewest() = 1", "piece(1, 0, 0, 60)", "fewest() = 1", "piece(0, 1, 0, 60)",
                "fewest() = 2", "drop(0)", "fewest() = 1");
        run("6 x piece(1, 0, 0, 5)", "fewest() = 6", "piece(1, 0, 0, 5)", "fewest() = 7",
                "4 x piece(1, 0, 0, 5)", "fewest() = 11", "piece(1, 0, 0, 5)", "fewest() = 12",
                "count(0) = 1");
        run("looms(6)", "fewest() = 1", "2 x piece(1, 0, 59, 60)", "fewest() = 2", "count(0) = 6",
                "fits() = 1");
        run("piece(3, 60, 0, 10)", "ways(0, 6)", "fewest() = 6", "piece(3, 60, 0, 10)",
                "ways(1, 6)", "fewest() = 12");
    }

    private static void promise18_none() {
        says(18, "FEWEST. NONE: 12 do not do.");
        run("2 x piece(3, 60, 0, 10)", "ways(0, 6)", "ways(1, 6)", "fewest() = 12",
                "piece(0, 1, 0, 10)", "fewest() = NONE", "undo() = 4", "fewest() = 12");
        run("piece(0, 6, 0, 5)", "fewest() = NONE", "drop(0)", "piece(0, 5, 0, 5)",
                "fewest() = 1");
        run("piece(3, 60, 0, 10)", "ways(0, 5)", "fewest() = NONE", "ways(0, 6)", "fewest() = 6");
        run("piece(4, 1, 0, 1)", "fewest() = NONE", "bar(0, 1, 2)", "fewest() = 1");
    }

    private static void promise19_0To200() {
        says(19, "DELAY: the least whole number (0 .. 200)");
        run("delay() = 0", "piece(1, 0, 0, 60)", "delay() = 0", "drop(0)", "piece(0, 6, 0, 5)",
                "delay() = 1", "piece(0, 6, 0, 5)", "delay() = 7");
        run("4 x piece(0, 60, 0, 41)", "delay() = 199");
        run("4 x piece(0, 60, 0, 40)", "delay() = 200");
        run("4 x piece(0, 60, 0, 39)", "delay() = NONE");
        run("looms(2)", "3 x piece(0, 5, 0, 7)", "delay() = 1");
    }

    private static void promise19_eachLastIsPutOff() {
        says(19, "by which each LAST is put off (of TIGHT ones too, the LENGTH stays) so that ALL "
                + "FIT.");
        run("2 x piece(1, 0, 0, 5)", "delay() = 5", "told(0, 1) = 5", "told(0, 3) = 5",
                "fits() = 0", "count(5) = 2");
        run("5 x piece(1, 0, 0, 50)", "delay() = 200", "piece(0, 1, 0, 50)", "delay() = NONE");
        run("2 x piece(1, 0, 0, 5)", "2 x piece(1, 0, 10, 15)", "delay() = 5");
        run("2 x piece(1, 0, 0, 5)", "2 x piece(1, 0, 6, 11)", "delay() = 9");
        run("end(1)", "piece(2, 60, 0, 0)", "delay() = 59", "end(60)", "delay() = 0");
        run("piece(4, 3, 0, 10)", "bar(0, 0, 60)", "delay() = 53");
        run("piece(4, 12, 0, 10)", "bar(0, 10, 20)", "delay() = 12", "bar(0, 9, 10)",
                "delay() = 3");
        run("looms(6)", "piece(3, 60, 0, 1)", "delay() = 29", "ways(0, 6)", "delay() = 9",
                "looms(5)", "delay() = 11");
        // all put off: what comes later begins no sooner
        run("piece(1, 0, 50, 60)", "2 x piece(1, 0, 0, 2)", "delay() = 2");
    }

    private static void promise19_none() {
        says(19, "DELAY. NONE: 200 does not do.");
        run("12 x piece(0, 60, 0, 60)", "delay() = NONE", "looms(2)", "delay() = NONE", "looms(3)",
                "delay() = 180", "undo() = 13", "delay() = NONE");
        run("looms(6)", "12 x piece(0, 60, 0, 1)", "delay() = 119");
    }

    private static void promise20_leastFraction() {
        says(20, "SPEED: the least fraction f above 0 such that all fit with LENGTHS by f");
        run("piece(0, 1, 0, 60)", "speed(0) = 1", "speed(1) = 60");
        run("looms(6)", "piece(3, 1, 0, 60)", "ways(0, 6)", "speed(0) = 1", "speed(1) = 360",
                "ways(0, 2)", "speed(1) = 120");
        run("12 x piece(0, 60, 0, 1)", "speed(0) = 720", "speed(1) = 1", "looms(6)",
                "speed(0) = 120", "speed(1) = 1");
        run("piece(1, 0, 0, 60)", "speed(0) = 1", "speed(1) = 1");
        run("piece(0, 1, 0, 60)", "piece(0, 3, 5, 7)", "speed(0) = 3", "speed(1) = 2",
                "piece(0, 4, 4, 8)", "speed(0) = 7", "speed(1) = 4");
    }

    private static void promise20_fractions() {
        says(20, "(amounts may be fractions then), told by two whole numbers without a common "
                + "divisor.");
        run("looms(2)", "3 x piece(0, 5, 0, 7)", "speed(0) = 15", "speed(1) = 14");
        run("looms(2)", "3 x piece(0, 1, 0, 1)", "speed(0) = 3", "speed(1) = 2");
        run("piece(0, 4, 0, 6)", "speed(0) = 2", "speed(1) = 3");
        run("piece(0, 60, 0, 36)", "speed(0) = 5", "speed(1) = 3");
        // 2/3 would do for both together, but not for the first alone
        run("piece(0, 1, 0, 1)", "piece(0, 1, 5, 7)", "speed(0) = 1", "speed(1) = 1");
        says(20, "SPEED: 0 the one above, 1 the one below.");
        run("piece(0, 10, 0, 5)", "speed(0) = 2", "speed(1) = 1", "undo() = 0", "speed(0) = NOT");
    }

    private static void promise20_refusals() {
        says(20, "BAD; NOT: there are no PIECES; NONE: a PIECE MAY LIE nowhere.");
        run("speed(0) = NOT", "speed(1) = NOT", "speed(-1) = BAD", "speed(2) = BAD",
                "speed(MIN) = BAD", "speed(MAX) = BAD", "piece(0, 1, 0, 1)", "speed(0) = 1",
                "speed(-1) = BAD", "speed(2) = BAD", "drop(0)", "speed(0) = NOT");
        run("piece(4, 1, 0, 1)", "speed(0) = NONE", "speed(1) = NONE", "speed(2) = BAD",
                "speed(-1) = BAD", "bar(0, 1, 2)", "speed(0) = 1", "undo() = 1", "speed(0) = NONE");
        run("piece(0, 1, 0, 5)", "piece(4, 3, 5, 9)", "bar(1, 5, 9)", "speed(0) = NONE",
                "bar(1, 0, 60)", "speed(0) = NONE", "bar(1, 6, 9)", "speed(0) = 3", "speed(1) = 1",
                "bar(1, 5, 8)", "speed(0) = 3", "bar(1, 0, 5)", "speed(0) = 3", "speed(1) = 4");
        run("11 x piece(0, 1, 0, 60)", "piece(4, 1, 0, 1)", "speed(0) = NONE");
    }

    private static void promise21_level() {
        says(21, "LEVEL, of PIECES, TIGHT and FREE ones alone, on one LOOM that may go at any "
                + "speed: the speeds that do all in their spans with the least sum over time of "
                + "speed times speed: each PIECE has one speed all the time.");
        run("piece(0, 1, 0, 60)", "level(0, 0) = 1", "level(0, 1) = 60", "looms(6)",
                "level(0, 0) = 1", "level(0, 1) = 60");
        run("12 x piece(0, 60, 0, 1)", "level(0, 0) = 720", "level(0, 1) = 1",
                "level(11, 0) = 720", "level(11, 1) = 1", "level(12, 0) = BAD");
        run("piece(1, 0, 3, 9)", "level(0, 0) = 1", "level(0, 1) = 1", "piece(0, 3, 20, 29)",
                "level(1, 0) = 1", "level(1, 1) = 3");
        run("end(1)", "piece(2, 60, 0, 0)", "level(0, 0) = 60", "level(0, 1) = 1", "end(60)",
                "level(0, 0) = 1", "level(0, 1) = 1", "end(45)", "level(0, 0) = 4",
                "level(0, 1) = 3", "undo() = 3", "level(0, 0) = 1");
        says(21, "The speed of a PIECE when LEVEL: 0 the number above, 1 below (without a common "
                + "divisor).");
        run("piece(0, 60, 0, 36)", "level(0, 0) = 5", "level(0, 1) = 3");
        run("piece(0, 36, 0, 60)", "level(0, 0) = 3", "level(0, 1) = 5");
    }

    private static void promise21_whollyInTheSpan() {
        says(21, "It is found so: of all spans from a FIRST to a LAST (a MOMENT to a later one) "
                + "the one whose PIECES that lie wholly in it have the greatest sum of LENGTHS by "
                + "its length;");
        run("2 x piece(0, 3, 2, 5)", "level(0, 0) = 2", "level(0, 1) = 1", "level(1, 0) = 2");
        // [0, 6) has both: 6 in 6 hours, and neither has more alone
        run("piece(0, 3, 0, 4)", "piece(0, 3, 2, 6)", "level(0, 0) = 1", "level(0, 1) = 1",
                "level(1, 0) = 1", "level(1, 1) = 1");
        // an hour more, and each goes by itself
        run("piece(0, 3, 0, 4)", "piece(0, 3, 4, 9)", "level(0, 0) = 3", "level(0, 1) = 4",
                "level(1, 0) = 3", "level(1, 1) = 5");
        says(21, "of those as great the one that begins first, of these the one that stops first; "
                + "these PIECES have that speed;");
        run("piece(0, 2, 2, 4)", "piece(0, 2, 0, 2)", "piece(0, 2, 0, 6)", "level(0, 0) = 1",
                "level(0, 1) = 1", "level(1, 0) = 1", "level(1, 1) = 1", "level(2, 0) = 1",
                "level(2, 1) = 1");
        run("piece(0, 4, 10, 12)", "piece(0, 4, 0, 2)", "piece(0, 3, 0, 12)", "level(0, 0) = 2",
                "level(1, 0) = 2", "level(2, 0) = 3", "level(2, 1) = 8");
    }

    private static void promise21_takenOutOfTime() {
        says(21, "then that span is taken out of time (moments in it become its beginning, later "
                + "ones are so much less), and so on.");
        String twoIn3To5 = "piece(0, 4, 3, 5)";
        run(twoIn3To5, "piece(0, 2, 4, 9)", "level(0, 0) = 2", "level(1, 0) = 1",
                "level(1, 1) = 2");
        run(twoIn3To5, "piece(0, 2, 0, 4)", "level(0, 0) = 2", "level(1, 0) = 2",
                "level(1, 1) = 3");
        run(twoIn3To5, "piece(0, 4, 0, 10)", "level(1, 0) = 1", "level(1, 1) = 2");
        run(twoIn3To5, "piece(0, 1, 0, 3)", "piece(0, 2, 5, 9)", "level(1, 0) = 1",
                "level(1, 1) = 3", "level(2, 0) = 1", "level(2, 1) = 2");
        run(twoIn3To5, "piece(0, 2, 3, 9)", "level(1, 0) = 1", "level(1, 1) = 2");
        run(twoIn3To5, "piece(0, 2, 1, 5)", "level(1, 0) = 1", "level(1, 1) = 1");
        // [3, 5) at 2, then the four hours left of [0, 6) at 3/4, then the four left of [0, 10)
        run("piece(0, 1, 0, 10)", "piece(0, 3, 0, 6)", twoIn3To5, "level(0, 0) = 1",
                "level(0, 1) = 4", "level(1, 0) = 3", "level(1, 1) = 4", "level(2, 0) = 2",
                "level(2, 1) = 1");
        // twelve spans, one within the other: of each two hours are left when its turn comes
        StringBuilder nested = new StringBuilder();
        for (int i = 0; i < 12; i++) {
            nested.append("piece(0, ").append(12 - i).append(", ").append(24 - i).append(", ");
            nested.append(26 + i).append("); ");
        }
        run(nested.toString(), "level(0, 0) = 6", "level(0, 1) = 1", "level(1, 0) = 11",
                "level(1, 1) = 2", "level(10, 0) = 1", "level(10, 1) = 1", "level(11, 0) = 1",
                "level(11, 1) = 2");
    }

    private static void promise21_refusals() {
        says(21, "BAD; CAST: some PIECE is SPLIT or BARRED.");
        run("level(0, 0) = BAD", "piece(0, 1, 0, 5)", "level(0, -1) = BAD", "level(0, 2) = BAD",
                "level(0, MIN) = BAD", "level(0, MAX) = BAD", "level(-1, 0) = BAD",
                "level(1, 0) = BAD", "level(12, 0) = BAD", "level(MIN, 0) = BAD",
                "level(MAX, 0) = BAD", "level(0, 0) = 1", "drop(0)", "level(0, 0) = BAD");
        run("piece(0, 1, 0, 5)", "piece(3, 1, 0, 5)", "level(0, 0) = CAST", "level(1, 1) = CAST",
                "level(2, 0) = BAD", "level(0, 2) = BAD", "drop(1)", "level(0, 0) = 1");
        run("piece(4, 1, 0, 5)", "piece(0, 1, 0, 5)", "level(0, 0) = CAST", "level(1, 1) = CAST",
                "level(2, 0) = BAD", "level(0, -1) = BAD", "drop(0)", "level(0, 1) = 5");
        run("11 x piece(0, 1, 0, 60)", "level(10, 0) = 11", "level(10, 1) = 60",
                "piece(3, 1, 0, 60)", "level(0, 0) = CAST", "undo() = 11", "level(0, 0) = 11");
    }

    private static void promise22_nAndWhat() {
        says(22, "The least latest end of DAYS for n (1 .. 4): 0 above, 1 below; what = 10 and "
                + "PIECE: its day.");
        run("8 x piece(0, 60, 0, 60)", "days(1, 0) = 480", "days(1, 1) = 1", "days(1, 10) = 0",
                "days(1, 17) = 0", "days(4, 0) = 120", "days(4, 1) = 1", "days(4, 10) = 0",
                "days(4, 17) = 3", "days(2, 0) = 240", "days(3, 0) = 180");
        run("piece(0, 1, 0, 60)", "days(1, 0) = 1", "days(1, 1) = 1", "days(4, 0) = 1",
                "days(4, 10) = 0");
        says(22, "BAD; NOT:");
        run("piece(0, 1, 0, 60)", "days(0, 0) = BAD", "days(5, 0) = BAD", "days(-1, 0) = BAD",
                "days(MIN, 0) = BAD", "days(MAX, 0) = BAD", "days(0, 10) = BAD",
                "days(5, 10) = BAD");
        run("piece(0, 1, 0, 60)", "days(1, -1) = BAD", "days(1, 2) = BAD", "days(1, 9) = BAD",
                "days(1, 11) = BAD", "days(1, 22) = BAD", "days(1, MIN) = BAD",
                "days(1, -2147483639) = BAD", "days(1, MAX) = BAD", "days(1, -10) = BAD");
    }

    private static void promise22_leastLatestEnd() {
        says(22, "DAYS: all PIECES (by LENGTHS alone) shared out to n like days, each as a whole "
                + "to one;");
        run("3 x piece(0, 3, 0, 1)", "days(2, 0) = 6", "days(2, 1) = 1", "days(3, 0) = 3",
                "days(4, 0) = 3");
        run("piece(1, 0, 3, 7)", "piece(2, 4, 0, 0)", "piece(3, 4, 0, 1)", "piece(4, 4, 0, 1)",
                "days(1, 0) = 16", "days(2, 0) = 8", "days(4, 0) = 4", "end(1)", "days(1, 0) = 16");
        says(22, "a day with pieces ends at the greater of its longest PIECE and its LENGTHS by "
                + "LOOMS (a fraction); the latest such end is to be least;");
        run("looms(3)", "3 x piece(0, 3, 0, 1)", "days(1, 0) = 3", "days(1, 1) = 1",
                "piece(0, 1, 0, 1)", "days(1, 0) = 10", "days(1, 1) = 3", "days(2, 0) = 3",
                "days(2, 1) = 1");
        run("looms(6)", "8 x piece(0, 1, 0, 1)", "days(1, 0) = 4", "days(1, 1) = 3",
                "days(2, 0) = 1", "days(2, 1) = 1");
        run("looms(6)", "8 x piece(0, 60, 0, 1)", "days(1, 0) = 80", "days(1, 1) = 1",
                "days(2, 0) = 60", "looms(1)", "days(2, 0) = 240");
        run("looms(2)", "piece(0, 7, 0, 1)", "3 x piece(0, 3, 0, 1)", "days(1, 0) = 8",
                "days(2, 0) = 7", "days(2, 1) = 1");
    }

    private static void promise22_firstByDays() {
        says(22, "of sharings with as little the first by PIECES' days (PIECE 0's first).");
        run("piece(0, 5, 0, 1)", "2 x piece(0, 1, 0, 1)", "days(3, 10) = 0", "days(3, 11) = 1",
                "days(3, 12) = 1");
        run("piece(0, 1, 0, 1)", "piece(0, 2, 0, 1)", "piece(0, 3, 0, 1)", "piece(0, 4, 0, 1)",
                "days(2, 0) = 5", "days(2, 10) = 0", "days(2, 11) = 1", "days(2, 12) = 1",
                "days(2, 13) = 0", "days(1, 13) = 0", "days(2, 13) = 0");
        run("looms(6)", "8 x piece(0, 60, 0, 1)", "days(4, 10) = 0", "days(4, 15) = 0",
                "days(4, 16) = 1", "days(4, 17) = 1");
        run("8 x piece(0, 1, 0, 1)", "days(4, 11) = 0", "days(4, 12) = 1", "days(4, 13) = 1",
                "days(4, 14) = 2", "days(4, 16) = 3", "days(3, 12) = 0", "days(3, 13) = 1",
                "days(3, 16) = 2", "days(3, 17) = 2");
    }

    private static void promise22_not() {
        says(22, "NOT: there are no PIECES, or more than 8.");
        run("days(1, 0) = NOT", "days(4, 1) = NOT", "days(0, 0) = BAD", "days(5, 1) = BAD",
                "days(1, 2) = BAD", "days(1, 10) = BAD");
        run("8 x piece(0, 1, 0, 60)", "days(1, 0) = 8", "days(1, 18) = BAD", "piece(0, 1, 0, 60)",
                "days(1, 0) = NOT", "days(4, 1) = NOT", "days(1, 10) = NOT", "days(1, 18) = NOT",
                "days(1, 19) = BAD", "days(0, 0) = BAD", "days(5, 18) = BAD", "days(1, 9) = BAD",
                "drop(0)", "days(1, 0) = 8", "days(1, 17) = 0", "undo() = 9", "days(1, 0) = NOT");
        run("12 x piece(0, 1, 0, 60)", "days(4, 21) = NOT", "days(4, 22) = BAD", "12 x drop(0)",
                "days(4, 0) = NOT");
    }
}
