/** Boundary cases of promises 12 to 17: fitting. */
final class FittingBoundaries {
    private FittingBoundaries() {
    }

    static void all() {
        promise12_withoutPieces();
        promise12_stretchTakesInAll();
        promise12_takesAtMostItsWays();
        promise12_noMoreThanItsLength();
        promise12_inItsSpan();
        promise12_notInWhatIsBarred();
        promise12_theMost();
        promise13_allLengthsTogether();
        promise13_behindTheEnd();
        promise14_bad();
        promise14_notAllFit();
        promise14_firstAmountThatDiffers();
        promise14_theSecondGivesWay();
        promise14_fullShed();
        promise15_hours0To59();
        promise15_noneAndNot();
        promise15_goesOnOnTheNextLoom();
        promise16_notAllFit();
        promise16_howOftenItBegins();
        promise17_what0To2();
        promise17_allFit();
        promise17_fewestPiecesAndStretches();
        promise17_bits();
    }

    private static void says(int promise, String words) {
        BoundaryTest.says(promise, words);
    }

    private static void run(String... rows) {
        BoundaryTest.run(rows);
    }

    private static void promise12_withoutPieces() {
        says(12, "THE MOST (0 without PIECES).");
        run("most() = 0", "piece(0, 5, 0, 9)", "most() = 5", "drop(0)", "most() = 0");
        run("looms(6)", "end(60)", "most() = 0", "piece(0, 5, 0, 9)", "most() = 5", "undo() = 2",
                "most() = 0");
    }

    private static void promise12_stretchTakesInAll() {
        says(12, "a STRETCH takes in all LOOMS times its length.");
        run("piece(0, 1, 0, 1)", "piece(0, 1, 0, 1)", "most() = 1", "looms(2)", "most() = 2",
                "piece(0, 1, 0, 1)", "most() = 2");
        run("12 x piece(0, 60, 0, 60)", "most() = 60", "looms(6)", "most() = 360");
        run("looms(6)", "7 x piece(1, 0, 59, 60)", "most() = 6");
        run("piece(1, 0, 0, 10)", "piece(0, 5, 5, 15)", "most() = 15", "piece(0, 1, 0, 15)",
                "most() = 15");
    }

    private static void promise12_takesAtMostItsWays() {
        says(12, "there it TAKES at most its WAYS (or as many as there are LOOMS, if these are "
                + "fewer) times the STRETCH's length;");
        run("looms(6)", "piece(0, 60, 0, 10)", "most() = 10", "piece(3, 60, 20, 30)", "most() = 30",
                "ways(1, 5)", "most() = 60", "ways(1, 6)", "most() = 70");
        run("piece(3, 60, 0, 10)", "ways(0, 6)", "most() = 10", "looms(5)", "most() = 50",
                "looms(6)", "most() = 60", "fits() = 1");
        run("looms(3)", "piece(3, 6, 0, 3)", "piece(1, 0, 0, 3)", "piece(1, 0, 1, 2)",
                "most() = 9", "drop(2)", "most() = 9", "fits() = 1");
    }

    private static void promise12_noMoreThanItsLength() {
        says(12, "A LAYING gives whole amounts (0 or more) to PIECES for STRETCHES where they MAY "
                + "LIE, no more than they TAKE, no STRETCH more than it takes, no PIECE more than "
                + "its LENGTH.");
        run("looms(6)", "piece(0, 1, 0, 60)", "most() = 1", "piece(3, 1, 0, 60)", "ways(1, 6)",
                "most() = 2");
        run("piece(0, 2, 0, 3)", "piece(0, 2, 0, 3)", "most() = 3");
        run("looms(2)", "3 x piece(0, 5, 0, 7)", "most() = 14");
    }

    private static void promise12_inItsSpan() {
        says(12, "A PIECE MAY LIE in a STRETCH that is in its span,");
        run("piece(1, 0, 5, 10)", "piece(0, 5, 0, 5)", "piece(0, 5, 10, 15)", "most() = 15");
        run("piece(1, 0, 5, 10)", "piece(0, 5, 1, 5)", "most() = 9", "piece(0, 5, 10, 14)",
                "most() = 13");
        run("piece(0, 2, 0, 1)", "most() = 1", "piece(0, 2, 59, 60)", "most() = 2");
    }

    private static void promise12_notInWhatIsBarred() {
        says(12, "and not in what is BARRED;");
        run("piece(4, 10, 5, 15)", "most() = 10", "bar(0, 4, 5)", "most() = 10", "bar(0, 0, 5)",
                "most() = 10", "bar(0, 15, 16)", "most() = 10", "bar(0, 15, 60)", "most() = 10");
        run("piece(4, 10, 5, 15)", "bar(0, 5, 6)", "most() = 9", "bar(0, 4, 6)", "most() = 9",
                "bar(0, 14, 15)", "most() = 9", "bar(0, 14, 16)", "most() = 9", "bar(0, 9, 11)",
                "most() = 8");
        run("piece(4, 10, 5, 15)", "bar(0, 5, 15)", "most() = 0", "bar(0, 0, 60)", "most() = 0",
                "bar(0, 4, 16)", "most() = 0", "bar(0, 6, 15)", "most() = 1", "bar(0, 5, 14)",
                "most() = 1");
        run("looms(2)", "piece(4, 9, 0, 10)", "bar(0, 4, 5)", "piece(0, 10, 0, 10)",
                "most() = 19");
    }

    private static void promise12_theMost() {
        says(12, "THE MOST is how much a LAYING gives in all at most.");
        run("piece(0, 2, 0, 4)", "piece(0, 2, 0, 2)", "most() = 4");
        run("piece(0, 1, 0, 3)", "piece(0, 1, 0, 2)", "piece(0, 1, 0, 1)", "most() = 3");
        run("piece(0, 4, 0, 3)", "piece(0, 4, 2, 5)", "piece(0, 4, 4, 7)", "most() = 7");
        // one that gives way, but has less to give than is wanted
        run("piece(0, 2, 0, 15)", "2 x piece(0, 3, 0, 5)", "most() = 7");
        // one that can go on elsewhere, but takes less there than is wanted
        run("looms(2)", "piece(0, 4, 0, 5)", "piece(1, 0, 0, 4)", "piece(0, 2, 0, 4)",
                "most() = 9");
        // the first two go on behind the third, one by one
        run("piece(0, 3, 0, 9)", "piece(0, 3, 0, 6)", "piece(0, 3, 0, 3)", "most() = 9",
                "piece(0, 1, 0, 9)", "most() = 9");
    }

    private static void promise13_allLengthsTogether() {
        says(13, "ALL FIT if that is all LENGTHS together.");
        run("fits() = 1", "piece(1, 0, 0, 60)", "fits() = 1", "piece(0, 1, 0, 60)", "fits() = 0",
                "looms(2)", "fits() = 1", "undo() = 2", "fits() = 0", "drop(1)", "fits() = 1");
        run("looms(6)", "12 x piece(0, 30, 0, 60)", "fits() = 1", "drop(0)",
                "piece(0, 31, 0, 60)", "fits() = 0");
        run("piece(0, 5, 0, 5)", "fits() = 1", "piece(0, 6, 10, 15)", "fits() = 0");
        says(13, "Whether ALL FIT: 1, 0.");
        run("piece(4, 1, 0, 1)", "fits() = 0", "bar(0, 1, 2)", "fits() = 1");
        run("looms(2)", "piece(3, 3, 0, 1)", "fits() = 0", "looms(3)", "fits() = 0", "ways(0, 3)",
                "fits() = 1", "looms(2)", "fits() = 0");
    }

    private static void promise13_behindTheEnd() {
        says(13, "What of a span lies behind the shed's END is there all the same (the shed is "
                + "open so long for it).");
        run("end(1)", "piece(1, 0, 1, 60)", "fits() = 1", "piece(1, 0, 0, 1)", "fits() = 1",
                "on(0, 59) = 0");
        run("end(10)", "piece(0, 10, 5, 15)", "fits() = 1", "lies(0, 0) = 10", "end(5)",
                "fits() = 1", "on(0, 14) = 0", "moment(1) = 15");
        run("end(10)", "piece(2, 11, 0, 0)", "fits() = 0", "end(11)", "fits() = 1");
        run("end(1)", "piece(2, 1, 0, 0)", "fits() = 1", "piece(2, 1, 0, 0)", "fits() = 0");
    }

    private static void promise14_bad() {
        says(14, "BAD; NOT: not ALL FIT.");
        run("lies(0, 0) = BAD", "piece(0, 3, 2, 9)", "lies(0, 0) = 3", "lies(0, 1) = BAD",
                "lies(0, -1) = BAD", "lies(1, 0) = BAD", "lies(-1, 0) = BAD", "lies(0, MIN) = BAD",
                "lies(0, MAX) = BAD", "lies(MIN, 0) = BAD", "lies(MAX, 0) = BAD",
                "lies(0, 47) = BAD", "lies(12, 0) = BAD", "drop(0)", "lies(0, 0) = BAD");
        run("piece(0, 3, 2, 9)", "piece(0, 3, 4, 9)", "lies(0, 1) = 1", "lies(1, 1) = 3",
                "lies(0, 2) = BAD", "lies(2, 1) = BAD", "drop(1)", "lies(0, 1) = BAD");
    }

    private static void promise14_notAllFit() {
        says(14, "What THE CLOTH gives a PIECE in a STRETCH. BAD; NOT: not ALL FIT.");
        run("2 x piece(1, 0, 0, 5)", "lies(0, 0) = NOT", "lies(1, 0) = NOT", "lies(2, 0) = BAD",
                "lies(0, 1) = BAD", "looms(2)", "lies(0, 0) = 5", "lies(1, 0) = 5", "undo() = 2",
                "lies(0, 0) = NOT");
        says(14, "THE CLOTH, where ALL FIT:");
        run("piece(0, 6, 0, 5)", "lies(0, 0) = NOT", "drop(0)", "piece(0, 5, 0, 5)",
                "lies(0, 0) = 5");
    }

    /** All amounts of the cloth: a row for each piece. */
    private static String cloth(int[]... rows) {
        StringBuilder asked = new StringBuilder();
        for (int p = 0; p < rows.length; p++) {
            for (int s = 0; s < rows[p].length; s++) {
                asked.append("lies(").append(p).append(", ").append(s).append(") = ");
                asked.append(rows[p][s]).append("; ");
            }
        }
        return asked.toString();
    }

    private static int[] row(int... amounts) {
        return amounts;
    }

    private static void promise14_firstAmountThatDiffers() {
        says(14, "of LAYINGS of THE MOST the one that gives, PIECE by PIECE, STRETCH by STRETCH "
                + "(from the left), the most (the first amount that differs is greater).");
        run("piece(0, 1, 0, 9)", "piece(0, 1, 4, 5)", cloth(row(1, 0, 0), row(0, 1, 0)));
        run("piece(0, 1, 0, 2)", "piece(0, 1, 0, 1)", cloth(row(0, 1), row(1, 0)));
        run("piece(0, 2, 0, 3)", "piece(0, 1, 1, 2)", cloth(row(1, 0, 1), row(0, 1, 0)));
        run("piece(0, 3, 0, 6)", "piece(0, 1, 0, 2)", "piece(0, 2, 2, 4)",
                cloth(row(1, 0, 2), row(1, 0, 0), row(0, 2, 0)));
        run("looms(2)", "piece(3, 4, 0, 4)", "piece(1, 0, 0, 2)", cloth(row(2, 2), row(2, 0)));
        run("looms(2)", "piece(0, 2, 0, 4)", "piece(3, 3, 0, 4)", "piece(0, 1, 0, 4)",
                "piece(1, 0, 2, 4)", cloth(row(2, 0), row(2, 1), row(0, 1), row(0, 2)));
        // as far as the first can give way, in one stretch and on two looms
        run("looms(2)", "piece(0, 4, 0, 5)", "piece(1, 0, 0, 4)", "piece(0, 1, 0, 4)",
                cloth(row(3, 1), row(4, 0), row(1, 0)), "drop(2)", "piece(0, 2, 0, 4)",
                "lies(0, 0) = NOT", "most() = 9");
    }

    /** The last piece needs room on the left: not the first gives way there, but the second. */
    private static void promise14_theSecondGivesWay() {
        says(14, "PIECE by PIECE, STRETCH by STRETCH (from the left), the most");
        run("2 x piece(0, 1, 0, 4)", cloth(row(1), row(1)), "piece(0, 1, 0, 2)",
                cloth(row(1, 0), row(0, 1), row(1, 0)));
        run("looms(2)", "2 x piece(0, 1, 0, 3)", "piece(0, 1, 0, 1)",
                cloth(row(1, 0), row(0, 1), row(1, 0)));
        run("2 x piece(0, 2, 0, 6)", "piece(0, 1, 0, 3)", cloth(row(2, 0), row(0, 2), row(1, 0)));
        // all hours are taken: the first and the second change places
        run("piece(0, 1, 0, 4)", "piece(0, 2, 0, 4)", "piece(0, 1, 0, 2)",
                cloth(row(1, 0), row(0, 2), row(1, 0)));
        // the second can go to the third stretch alone, by so much as it has, or as is to go
        String firstTo8 = "piece(0, 2, 0, 8); piece(4, 1, 0, 12); bar(1, 4, 8)";
        run(firstTo8, "piece(0, 3, 0, 4)", cloth(row(1, 1, 0), row(0, 0, 1), row(3, 0, 0)));
        run("piece(0, 1, 0, 8)", "piece(4, 3, 0, 12)", "bar(1, 4, 8)", "piece(0, 1, 0, 4)",
                cloth(row(1, 0, 0), row(2, 0, 1), row(1, 0, 0)));
        run("piece(0, 1, 0, 4)", "piece(4, 1, 0, 5)", "bar(1, 2, 4)", "piece(0, 1, 0, 2)",
                cloth(row(1, 0, 0), row(0, 0, 1), row(1, 0, 0)));
        // there is one hour behind the bars: for the first one's sake it is the fourth that goes
        run("2 x piece(0, 1, 0, 8)", "2 x piece(4, 1, 0, 9)", "bar(2, 4, 8)", "bar(3, 4, 8)",
                "piece(0, 2, 0, 4)",
                cloth(row(1, 0, 0), row(0, 1, 0), row(1, 0, 0), row(0, 0, 1), row(2, 0, 0)));
        run("piece(0, 1, 1, 4)", "piece(0, 1, 2, 4)", "piece(0, 1, 1, 3)",
                cloth(row(1, 0, 0), row(0, 0, 1), row(0, 1, 0)));
        run("looms(2)", "piece(0, 4, 3, 8)", "piece(3, 1, 4, 7)", "piece(1, 0, 4, 5)",
                cloth(row(1, 1, 2, 0), row(0, 0, 1, 0), row(0, 1, 0, 0)));
        run("looms(2)", "piece(0, 3, 0, 6)", "piece(3, 2, 1, 4)", "piece(1, 0, 0, 3)",
                cloth(row(1, 2, 0, 0), row(0, 0, 2, 0), row(1, 2, 0, 0)));
        run("piece(0, 1, 6, 8)", "piece(4, 1, 6, 7)", "bar(1, 3, 5)", "piece(3, 4, 0, 6)",
                "piece(0, 1, 1, 4)", cloth(row(0, 0, 0, 0, 0, 0, 1), row(0, 0, 0, 0, 0, 1, 0),
                row(1, 2, 0, 1, 0, 0, 0), row(0, 0, 1, 0, 0, 0, 0)));
    }

    /** Each of twelve pieces has a stretch of its own to begin with, and lies there. */
    private static void promise14_fullShed() {
        says(14, "What THE CLOTH gives a PIECE in a STRETCH.");
        run(ShedBoundaries.nestedBars(12, 1), "fits() = 1", "lies(0, 0) = 1", "lies(0, 1) = 0",
                "lies(11, 11) = 1", "lies(11, 10) = 0", "lies(11, 46) = 0", "lies(0, 46) = 0",
                "lies(11, 47) = BAD", "lies(12, 46) = BAD", "on(0, 0) = 0", "on(0, 11) = 11",
                "on(0, 12) = NONE", "on(0, 59) = NONE", "cuts() = 0");
    }

    private static void promise15_hours0To59() {
        says(15, "BAD: also t not 0 .. 59;");
        run("on(0, -1) = BAD", "on(0, 60) = BAD", "on(0, MIN) = BAD", "on(0, MAX) = BAD",
                "on(0, 0) = NONE", "on(0, 59) = NONE");
        run("piece(1, 0, 0, 60)", "on(0, 0) = 0", "on(0, 59) = 0", "on(0, 60) = BAD",
                "on(0, -1) = BAD");
        run("on(-1, 0) = BAD", "on(1, 0) = BAD", "on(6, 0) = BAD", "on(MIN, 0) = BAD",
                "on(MAX, 0) = BAD", "looms(6)", "on(5, 0) = NONE", "on(6, 0) = BAD", "looms(5)",
                "on(5, 0) = BAD", "undo() = 1", "on(5, 0) = NONE");
        says(15, "So each hour (from moment t to t + 1) of each LOOM has a PIECE or none.");
        run("piece(1, 0, 59, 60)", "piece(1, 0, 0, 1)", "on(0, 0) = 1", "on(0, 1) = NONE",
                "on(0, 58) = NONE", "on(0, 59) = 0");
        run("piece(0, 2, 5, 8)", "on(0, 4) = NONE", "on(0, 5) = 0", "on(0, 6) = 0",
                "on(0, 7) = NONE", "on(0, 8) = NONE");
        // nothing is left of a longer cloth
        run("end(15)", "piece(2, 2, 0, 0)", "piece(1, 0, 0, 5)", "on(0, 5) = 0", "on(0, 6) = 0",
                "drop(1)", "end(5)", "on(0, 1) = 0", "on(0, 5) = NONE", "on(0, 6) = NONE");
    }

    private static void promise15_noneAndNot() {
        says(15, "The PIECE on a LOOM in the hour from t on; NONE.");
        run("looms(2)", "piece(1, 0, 5, 8)", "on(0, 5) = 0", "on(1, 5) = NONE", "on(0, 8) = NONE");
        says(15, "NOT: not ALL FIT.");
        run("2 x piece(1, 0, 0, 5)", "on(0, 0) = NOT", "on(0, 59) = NOT", "on(0, 60) = BAD",
                "on(1, 0) = BAD", "looms(2)", "on(0, 0) = 0", "on(1, 0) = 1", "on(1, 5) = NONE",
                "undo() = 2", "on(0, 0) = NOT");
    }

    private static void promise15_goesOnOnTheNextLoom() {
        says(15, "Within a STRETCH amounts are laid PIECE by PIECE on LOOM 0, from the STRETCH's "
                + "beginning on, then LOOM 1, and so on (what does not go on a LOOM goes on on the "
                + "next one from the beginning).");
        run("looms(2)", "2 x piece(1, 0, 3, 5)", "on(0, 3) = 0", "on(0, 4) = 0", "on(1, 3) = 1",
                "on(1, 4) = 1", "on(0, 5) = NONE", "cuts() = 0");
        run("looms(2)", "3 x piece(0, 2, 5, 8)", "on(0, 5) = 0", "on(0, 6) = 0", "on(0, 7) = 1",
                "on(1, 5) = 1", "on(1, 6) = 2", "on(1, 7) = 2", "cuts() = 1");
        run("looms(3)", "piece(3, 5, 0, 2)", "ways(0, 3)", "on(0, 1) = 0", "on(1, 1) = 0",
                "on(2, 0) = 0", "on(2, 1) = NONE", "cuts() = 2");
        run("looms(6)", "piece(3, 6, 59, 60)", "ways(0, 6)", "on(0, 59) = 0", "on(5, 59) = 0",
                "on(5, 58) = NONE", "cuts() = 5");
        // a new stretch begins on loom 0 again
        run("looms(2)", "piece(1, 0, 0, 4)", "piece(0, 3, 0, 4)", "piece(1, 0, 4, 6)",
                "on(0, 3) = 0", "on(1, 0) = 1", "on(1, 2) = 1", "on(1, 3) = NONE", "on(0, 4) = 2",
                "on(1, 4) = NONE");
    }

    private static void promise16_notAllFit() {
        says(16, "CUTS. NOT: not ALL FIT.");
        run("cuts() = 0", "piece(0, 5, 0, 5)", "cuts() = 0", "piece(0, 1, 0, 5)", "cuts() = NOT",
                "drop(1)", "cuts() = 0", "drop(0)", "cuts() = 0");
    }

    private static void promise16_howOftenItBegins() {
        says(16, "CUTS: for each PIECE how often it begins (an hour of a LOOM with it, the hour "
                + "ahead on that LOOM being another one, or none), less 1, all together.");
        run("piece(1, 0, 0, 60)", "cuts() = 0", "piece(1, 0, 5, 6)", "cuts() = NOT", "looms(2)",
                "cuts() = 0");
        // 0 0 0 1 0 0 on one loom; on two it goes on from stretch to stretch
        run("piece(0, 5, 0, 10)", "piece(0, 1, 3, 4)", "cuts() = 1", "looms(2)", "cuts() = 0");
        // cut by none: its own bar
        run("piece(4, 4, 0, 10)", "bar(0, 2, 3)", "on(0, 1) = 0", "on(0, 2) = NONE",
                "on(0, 3) = 0", "cuts() = 1", "bar(0, 4, 5)", "cuts() = 0", "bar(0, 0, 1)",
                "cuts() = 0");
        // from loom 0 to loom 1 and back
        run("looms(2)", "piece(1, 0, 2, 4)", "piece(1, 0, 0, 6)", "on(0, 1) = 1", "on(1, 2) = 1",
                "on(0, 2) = 0", "on(0, 4) = 1", "cuts() = 2");
        // on both looms at once, and then on one
        run("looms(2)", "piece(3, 3, 0, 2)", "on(0, 1) = 0", "on(1, 0) = 0", "on(1, 1) = NONE",
                "cuts() = 1");
        run("12 x piece(0, 5, 0, 60)", "cuts() = 0", "looms(6)", "cuts() = 0");
        // 0 0 0 1 1, 1 2 2 2 3, 3 3 4 4 4
        run("looms(3)", "5 x piece(0, 3, 0, 5)", "on(0, 4) = 1", "on(1, 0) = 1", "on(1, 4) = 3",
                "on(2, 0) = 3", "on(2, 1) = 3", "on(2, 4) = 4", "cuts() = 2");
    }

    private static void promise17_what0To2() {
        says(17, "BAD; NOT: ALL FIT.");
        run("crowded(-1) = BAD", "crowded(3) = BAD", "crowded(MIN) = BAD", "crowded(MAX) = BAD");
        run("piece(0, 6, 0, 5)", "crowded(-1) = BAD", "crowded(3) = BAD", "crowded(0) = 1",
                "crowded(1) = 0", "crowded(2) = 0");
    }

    private static void promise17_allFit() {
        says(17, "CROWDED, where not ALL FIT:");
        run("crowded(0) = NOT", "crowded(1) = NOT", "crowded(2) = NOT", "piece(0, 5, 0, 5)",
                "crowded(0) = NOT", "piece(0, 1, 0, 5)", "crowded(0) = 3", "crowded(1) = 1",
                "crowded(2) = 0", "looms(2)", "crowded(0) = NOT", "crowded(1) = NOT",
                "crowded(2) = NOT", "undo() = 2", "crowded(0) = 3");
    }

    private static void promise17_fewestPiecesAndStretches() {
        says(17, "of all choices of PIECES and STRETCHES by which THE MOST is told (LENGTHS of "
                + "PIECES not chosen, and LOOMS times the lengths of STRETCHES chosen, and what "
                + "chosen PIECES TAKE in STRETCHES not chosen, are THE MOST together), the one "
                + "with the fewest PIECES and STRETCHES (which is within each other one).");
        // too long for itself: what it takes tells it, without a stretch
        run("looms(2)", "piece(0, 6, 0, 5)", "piece(1, 0, 0, 5)", "crowded(0) = 1",
                "crowded(1) = 0");
        // ways beyond the looms take no more than the stretch
        run("piece(3, 60, 0, 10)", "ways(0, 6)", "crowded(0) = 1", "crowded(1) = 0", "looms(2)",
                "crowded(0) = 1", "crowded(1) = 0");
        // what just fills its span is not crowded, nor what has room
        run("piece(1, 0, 0, 5)", "piece(0, 6, 10, 20)", "piece(0, 5, 10, 20)",
                "piece(0, 1, 20, 30)", "crowded(0) = 6", "crowded(1) = 4", "crowded(2) = 0");
        // barred everywhere: it alone
        run("piece(4, 1, 0, 1)", "piece(1, 0, 0, 5)", "crowded(0) = 1", "crowded(1) = 0");
        // a piece that could give way only into what is full is crowded too
        run("piece(0, 2, 0, 4)", "piece(1, 0, 2, 4)", "2 x piece(0, 1, 0, 2)", "crowded(0) = 15",
                "crowded(1) = 3", "end(5)", "piece(0, 1, 4, 5)", "crowded(0) = 15",
                "crowded(1) = 3");
        // the last takes in [8, 9) less than that stretch does: it is not chosen
        run("looms(2)", "piece(0, 5, 0, 4)", "2 x piece(1, 0, 6, 8)", "piece(0, 3, 6, 9)",
                "most() = 9", "crowded(0) = 15", "crowded(1) = 4");
    }

    private static void promise17_bits() {
        says(17, "CROWDED, as bits: 0 PIECES, 1 STRETCHES 0 .. 30, 2 STRETCHES 31 and more (bit 0 "
                + "for 31).");
        // moments 0 .. 9, 12 .. 21, 39 .. 48, 51 .. 60: stretch 30 begins at 51, 38 at 59
        String ten = ShedBoundaries.nestedBars(10, 1);
        run(ten, "2 x piece(1, 0, 0, 1)", "count(2) = 39", "crowded(0) = " + (3 << 10),
                "crowded(1) = 1", "crowded(2) = 0");
        run(ten, "2 x piece(1, 0, 51, 52)", "crowded(0) = " + (3 << 10),
                "crowded(1) = " + (1 << 30), "crowded(2) = 0");
        run(ten, "2 x piece(1, 0, 52, 53)", "crowded(0) = " + (3 << 10), "crowded(1) = 0",
                "crowded(2) = 1");
        run(ten, "2 x piece(1, 0, 59, 60)", "crowded(0) = " + (3 << 10), "crowded(1) = 0",
                "crowded(2) = " + (1 << 7));
        run(ten, "2 x piece(1, 0, 48, 53)", "crowded(0) = " + (3 << 10),
                "crowded(1) = " + (3 << 29), "crowded(2) = 1");
        run("looms(6)", "12 x piece(0, 60, 0, 1)", "crowded(0) = " + 0xfff, "crowded(1) = 1");
        // 47 stretches: 6 .. 16 and 30 .. 40 are wanted by seven and more of the twelve
        run("looms(6)", ShedBoundaries.nestedBars(12, 24), "count(2) = 47",
                "crowded(0) = " + 0xfff, "crowded(1) = " + (0x7ff << 6 | 1 << 30),
                "crowded(2) = " + 0x3ff);
    }
}
