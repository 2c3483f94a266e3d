/** Boundary cases of promises 1 to 11: the shed. */
final class ShedBoundaries {
    private static final String ONE_OF_EACH_KIND =
            "piece(0, 5, 2, 9); piece(1, 0, 3, 7); piece(2, 5, 0, 0); piece(3, 5, 2, 9); "
            + "piece(4, 5, 2, 9)";

    private ShedBoundaries() {
    }

    static void all() {
        promise1_newObject();
        promise1_512Calls();
        promise2_oneToSixLooms();
        promise2_howManyThereWere();
        promise3_end1To60();
        promise3_whatItWas();
        promise4_kinds();
        promise4_length1To60();
        promise4_firstAndLast0To60();
        promise4_tight();
        promise4_free();
        promise4_splitAndBarredAtFirst();
        promise4_waysOfOthers();
        promise4_pieces0To11();
        promise4_notThereAre12();
        promise5_ways2To6();
        promise5_badAndCast();
        promise6_beginAndStop0To60();
        promise6_badAndCast();
        promise7_thoseBehindHaveOneLess();
        promise7_bad();
        promise8_what0To6();
        promise8_noneNotBarred();
        promise9_notThereIsNone();
        promise9_twentyAtMost();
        promise9_noneTwice();
        promise9_latestAccepted();
        promise9_undoOfEach();
        promise10_what0To5();
        promise10_leastAndGreatest();
        promise11_moments();
        promise11_lastMoment();
        promise11_withoutStretches();
    }

    private static void says(int promise, String words) {
        BoundaryTest.says(promise, words);
    }

    private static void run(String... rows) {
        BoundaryTest.run(rows);
    }

    private static void promise1_newObject() {
        says(1, "One LOOM, END 24, no PIECES, nothing to undo.");
        run("count(0) = 1", "count(1) = 0", "count(2) = 0", "count(3) = 0", "count(4) = 24",
                "count(5) = 0", "undo() = NOT");
        run("looms(1) = 1");
        run("end(24) = 24");
        run("piece(0, 1, 0, 1) = 0");
        run("drop(0) = BAD", "told(0, 0) = BAD", "moment(0) = BAD", "lies(0, 0) = BAD",
                "level(0, 0) = BAD", "ways(0, 2) = BAD", "bar(0, 0, 1) = BAD", "on(1, 0) = BAD");
        run("most() = 0", "fits() = 1", "cuts() = 0", "crowded(0) = NOT", "fewest() = 1",
                "delay() = 0", "speed(0) = NOT", "days(1, 0) = NOT", "on(0, 0) = NONE");
        LoomShed one = new LoomShed();
        LoomShed other = new LoomShed();
        one.looms(6);
        one.end(60);
        one.piece(0, 5, 0, 5);
        String view = Check.viewOf(other);
        BoundaryTest.holds("an object of its own", view.equals(Check.viewOf(new LoomShed())));
    }

    private static void promise1_512Calls() {
        says(1, "An object is used for at most 512 calls after it has been made");
        run("490 x end(30)", "20 x undo()", "undo() = NOT", "count(4) = 30");
        run("12 x piece(0, 60, 0, 60)", "499 x on(0, 0) = NOT", "delay() = NONE");
        run("11 x piece(4, 1, 0, 60)", "500 x bar(10, 5, 9)", "piece(4, 1, 0, 60) = 11");
    }

    private static void promise2_oneToSixLooms() {
        says(2, "THE SHED has 1 to 6 LOOMS (1 at first)");
        run("looms(1) = 1", "looms(2) = 1", "looms(3) = 2", "looms(4) = 3", "looms(5) = 4",
                "looms(6) = 5", "count(0) = 6");
        says(2, "BAD.");
        run("looms(0) = BAD", "looms(7) = BAD", "looms(-1) = BAD", "looms(MIN) = BAD",
                "looms(MAX) = BAD", "count(0) = 1", "count(5) = 0");
        run("looms(6) = 1", "looms(7) = BAD", "looms(0) = BAD", "count(0) = 6", "count(5) = 1",
                "undo() = 0", "count(0) = 1");
    }

    private static void promise2_howManyThereWere() {
        says(2, "So many LOOMS: how many there were.");
        run("looms(6) = 1", "looms(6) = 6", "looms(1) = 6", "looms(1) = 1", "count(0) = 1",
                "count(5) = 4");
        run("12 x piece(0, 1, 0, 60)", "looms(6) = 1", "looms(2) = 6", "undo() = 13",
                "looms(1) = 6");
    }

    private static void promise3_end1To60() {
        says(3, "and is open from 0 to its END (1 .. 60; 24 at first).");
        run("end(1) = 24", "end(60) = 1", "end(59) = 60", "end(2) = 59", "count(4) = 2");
        says(3, "BAD.");
        run("end(0) = BAD", "end(61) = BAD", "end(-1) = BAD", "end(MIN) = BAD", "end(MAX) = BAD",
                "count(4) = 24", "count(5) = 0");
        run("end(60) = 24", "end(61) = BAD", "end(0) = BAD", "count(4) = 60", "count(5) = 1");
    }

    private static void promise3_whatItWas() {
        says(3, "The END: what it was.");
        run("end(60) = 24", "end(60) = 60", "end(1) = 60", "end(1) = 1", "undo() = 3", "undo() = 2",
                "end(24) = 60");
    }

    private static void promise4_kinds() {
        says(4, "of KINDS: 0 PIECE:");
        run("piece(0, 5, 2, 9) = 0", "piece(1, 5, 2, 9) = 1", "piece(2, 5, 2, 9) = 2",
                "piece(3, 5, 2, 9) = 3", "piece(4, 5, 2, 9) = 4", "told(0, 0) = 0",
                "told(1, 0) = 1", "told(2, 0) = 2", "told(3, 0) = 3", "told(4, 0) = 4");
        says(4, "BAD;");
        run("piece(-1, 5, 2, 9) = BAD", "piece(5, 5, 2, 9) = BAD", "piece(MIN, 5, 2, 9) = BAD",
                "piece(MAX, 5, 2, 9) = BAD", "count(1) = 0", "count(5) = 0");
    }

    private static void promise4_length1To60() {
        says(4, "a LENGTH (1 .. 60),");
        for (int kind : new int[] {0, 2, 3, 4}) {
            String of = "piece(" + kind + ", ";
            run(of + "1, 0, 9) = 0", of + "60, 0, 9) = 1", "told(0, 1) = 1", "told(1, 1) = 60");
            run(of + "0, 0, 9) = BAD", of + "61, 0, 9) = BAD", of + "-1, 0, 9) = BAD",
                    of + "MIN, 0, 9) = BAD", of + "MAX, 0, 9) = BAD", "count(1) = 0",
                    "count(5) = 0");
        }
    }

    private static void promise4_firstAndLast0To60() {
        says(4, "a FIRST and a LAST moment (0 .. 60, FIRST less);");
        for (int kind : new int[] {0, 1, 3, 4}) {
            String of = "piece(" + kind + ", 1, ";
            run(of + "0, 1) = 0", of + "59, 60) = 1", of + "0, 60) = 2", "told(0, 2) = 0",
                    "told(0, 3) = 1", "told(1, 2) = 59", "told(1, 3) = 60", "told(2, 3) = 60");
            run(of + "-1, 1) = BAD", of + "-1, 60) = BAD", of + "0, 61) = BAD",
                    of + "59, 61) = BAD", of + "60, 61) = BAD", of + "-1, 0) = BAD",
                    of + "MIN, 5) = BAD", of + "5, MAX) = BAD", of + "MIN, MAX) = BAD");
            run(of + "0, 0) = BAD", of + "5, 5) = BAD", of + "60, 60) = BAD", of + "1, 0) = BAD",
                    of + "60, 59) = BAD", of + "60, 0) = BAD", of + "MAX, MIN) = BAD",
                    "count(1) = 0", "count(5) = 0");
        }
    }

    private static void promise4_tight() {
        says(4, "below it 1 TIGHT: its LENGTH is its span;");
        run("piece(1, 9, 0, 1) = 0", "piece(1, 9, 0, 60) = 1", "piece(1, 9, 59, 60) = 2",
                "told(0, 1) = 1", "told(1, 1) = 60", "told(2, 1) = 1", "count(3) = 62");
        says(4, "of others they do not matter;");
        run("piece(1, 0, 3, 9) = 0", "piece(1, 61, 3, 9) = 1", "piece(1, MIN, 3, 9) = 2",
                "piece(1, MAX, 3, 9) = 3", "told(0, 1) = 6", "told(1, 1) = 6", "told(2, 1) = 6",
                "told(3, 1) = 6");
    }

    private static void promise4_free() {
        says(4, "2 FREE: FIRST is 0, LAST the shed's END;");
        run("piece(2, 5, 3, 9) = 0", "told(0, 2) = 0", "told(0, 3) = 24", "end(1)",
                "told(0, 3) = 1", "end(60)", "told(0, 3) = 60", "undo() = 2", "told(0, 3) = 1",
                "undo() = 1", "told(0, 3) = 24");
        run("end(60)", "piece(2, 60, 0, 0) = 0", "told(0, 3) = 60", "fits() = 1", "end(59)",
                "fits() = 0", "most() = 59");
        says(4, "A PIECE (LENGTH, FIRST, LAST as its KIND has them; of others they do not matter;");
        run("piece(2, 5, -1, 61) = 0", "piece(2, 5, 9, 9) = 1", "piece(2, 5, MAX, MIN) = 2",
                "piece(2, 5, MIN, MAX) = 3", "told(2, 2) = 0", "told(2, 3) = 24", "count(2) = 1");
    }

    private static void promise4_splitAndBarredAtFirst() {
        says(4, "WAYS 2 of SPLIT, BEGIN 0, STOP 1 of BARRED): its number.");
        run("piece(3, 5, 2, 9) = 0", "told(0, 4) = 2", "piece(4, 5, 2, 9) = 1", "told(1, 5) = 0",
                "told(1, 6) = 1");
        run("piece(4, 1, 0, 1) = 0", "fits() = 0", "piece(4, 1, 0, 2) = 1", "drop(0)",
                "fits() = 1", "lies(0, 0) = 0", "lies(0, 1) = 1");
        run("looms(2)", "piece(3, 2, 0, 1) = 0", "fits() = 1", "piece(3, 3, 0, 1) = 1",
                "drop(0)", "fits() = 0");
    }

    private static void promise4_waysOfOthers() {
        says(4, "All of KINDS but SPLIT have WAYS 1.");
        run(ONE_OF_EACH_KIND, "told(0, 4) = 1", "told(1, 4) = 1", "told(2, 4) = 1",
                "told(3, 4) = 2", "told(4, 4) = 1");
        run("looms(6)", "piece(0, 2, 5, 6)", "most() = 1", "piece(4, 2, 10, 11)", "most() = 2",
                "end(1)", "piece(2, 2, 0, 0)", "most() = 3", "drop(2)", "piece(3, 2, 20, 21)",
                "most() = 4");
    }

    private static void promise4_pieces0To11() {
        says(4, "PIECES 0 .. 11, as they come,");
        run("piece(0, 1, 0, 60) = 0", "piece(1, 1, 0, 60) = 1", "piece(2, 1, 0, 60) = 2",
                "piece(3, 1, 0, 60) = 3", "piece(4, 1, 0, 60) = 4", "piece(0, 1, 0, 60) = 5",
                "piece(1, 1, 0, 60) = 6", "piece(2, 1, 0, 60) = 7", "piece(3, 1, 0, 60) = 8",
                "piece(4, 1, 0, 60) = 9", "piece(0, 1, 0, 60) = 10", "piece(0, 7, 0, 60) = 11",
                "count(1) = 12", "told(11, 1) = 7", "told(12, 1) = BAD");
        run("11 x piece(0, 1, 0, 60)", "told(11, 0) = BAD", "piece(0, 1, 0, 60) = 11",
                "drop(11) = 11", "piece(0, 2, 0, 60) = 11", "undo() = 13", "undo() = 12",
                "told(11, 1) = 1");
    }

    private static void promise4_notThereAre12() {
        says(4, "NOT: there are 12.");
        run("12 x piece(0, 1, 0, 60)", "piece(0, 1, 0, 60) = NOT", "piece(1, 1, 0, 60) = NOT",
                "piece(2, 1, 0, 60) = NOT", "piece(3, 1, 0, 60) = NOT", "piece(4, 1, 0, 60) = NOT",
                "count(1) = 12", "count(3) = 12", "count(5) = 12");
        run("12 x piece(0, 1, 0, 60)", "piece(0, 1, 0, 60) = NOT", "drop(5) = 11",
                "piece(0, 1, 0, 60) = 11", "piece(0, 1, 0, 60) = NOT", "2 x undo()",
                "piece(0, 1, 0, 60) = NOT", "undo() = 11", "piece(0, 1, 0, 60) = 11");
    }

    private static void promise5_ways2To6() {
        says(5, "3 SPLIT: may be on as many LOOMS at once as told, its WAYS (2 .. 6);");
        run("piece(3, 5, 2, 9)", "ways(0, 2) = 2", "ways(0, 3) = 2", "ways(0, 4) = 3",
                "ways(0, 5) = 4", "ways(0, 6) = 5", "told(0, 4) = 6");
        run("piece(3, 5, 2, 9)", "ways(0, 1) = BAD", "ways(0, 7) = BAD", "ways(0, 0) = BAD",
                "ways(0, -1) = BAD", "ways(0, MIN) = BAD", "ways(0, MAX) = BAD", "told(0, 4) = 2",
                "count(5) = 1");
        says(5, "WAYS of a SPLIT: what they were.");
        run("piece(3, 5, 2, 9)", "piece(3, 6, 3, 8)", "ways(1, 6) = 2", "ways(1, 6) = 6",
                "ways(0, 2) = 2", "ways(1, 2) = 6", "told(1, 0) = 3", "told(1, 1) = 6",
                "told(1, 2) = 3", "told(1, 3) = 8", "undo() = 5", "told(1, 4) = 6",
                "told(0, 4) = 2");
    }

    private static void promise5_badAndCast() {
        says(5, "BAD; CAST.");
        run("ways(0, 2) = BAD", "piece(3, 5, 2, 9)", "ways(-1, 2) = BAD", "ways(1, 2) = BAD",
                "ways(12, 2) = BAD", "ways(MIN, 2) = BAD", "ways(MAX, 2) = BAD", "drop(0)",
                "ways(0, 2) = BAD");
        run(ONE_OF_EACH_KIND, "ways(0, 2) = CAST", "ways(1, 6) = CAST", "ways(2, 2) = CAST",
                "ways(4, 2) = CAST", "ways(3, 2) = 2", "count(5) = 6");
        run("12 x piece(3, 1, 0, 60)", "ways(11, 6) = 2", "ways(12, 6) = BAD");
    }

    private static void promise6_beginAndStop0To60() {
        says(6, "4 BARRED: may not lie from moment BEGIN to moment STOP (0 .. 60, BEGIN less).");
        run("piece(4, 5, 2, 9)", "bar(0, 0, 1) = 1", "bar(0, 59, 60) = 1", "told(0, 5) = 59",
                "told(0, 6) = 60", "bar(0, 0, 60) = 1", "told(0, 5) = 0", "told(0, 6) = 60");
        run("piece(4, 5, 2, 9)", "bar(0, -1, 1) = BAD", "bar(0, -1, 60) = BAD",
                "bar(0, 0, 61) = BAD", "bar(0, 59, 61) = BAD", "bar(0, 60, 61) = BAD",
                "bar(0, -1, 0) = BAD", "bar(0, MIN, MAX) = BAD", "told(0, 5) = 0",
                "told(0, 6) = 1", "count(5) = 1");
        run("piece(4, 5, 2, 9)", "bar(0, 0, 0) = BAD", "bar(0, 5, 5) = BAD", "bar(0, 60, 60) = BAD",
                "bar(0, 1, 0) = BAD", "bar(0, 60, 59) = BAD", "bar(0, MAX, MIN) = BAD",
                "count(5) = 1");
        says(6, "BEGIN and STOP of a BARRED: 1.");
        run("piece(4, 5, 2, 9)", "piece(4, 6, 3, 8)", "bar(1, 4, 5) = 1", "bar(1, 4, 5) = 1",
                "told(0, 5) = 0", "told(1, 5) = 4", "told(1, 6) = 5", "told(1, 1) = 6",
                "told(1, 2) = 3", "told(1, 3) = 8", "2 x undo()", "told(1, 5) = 0",
                "told(1, 6) = 1");
    }

    private static void promise6_badAndCast() {
        says(6, "BAD; CAST.");
        run("bar(0, 0, 1) = BAD", "piece(4, 5, 2, 9)", "bar(-1, 0, 1) = BAD", "bar(1, 0, 1) = BAD",
                "bar(12, 0, 1) = BAD", "bar(MIN, 0, 1) = BAD", "bar(MAX, 0, 1) = BAD", "drop(0)",
                "bar(0, 0, 1) = BAD");
        run(ONE_OF_EACH_KIND, "bar(0, 0, 1) = CAST", "bar(1, 0, 60) = CAST", "bar(2, 0, 1) = CAST",
                "bar(3, 0, 1) = CAST", "bar(4, 0, 1) = 1", "count(5) = 6");
        run("12 x piece(4, 1, 0, 60)", "bar(11, 5, 6) = 1", "bar(12, 5, 6) = BAD");
    }

    private static void promise7_thoseBehindHaveOneLess() {
        says(7, "A PIECE goes (those behind have one less): how many there are.");
        String four = "piece(0, 1, 0, 60); piece(0, 2, 0, 60); piece(0, 3, 0, 60); "
                + "piece(0, 4, 0, 60)";
        run(four, "drop(0) = 3", "told(0, 1) = 2", "told(1, 1) = 3", "told(2, 1) = 4",
                "told(3, 1) = BAD", "count(3) = 9");
        run(four, "drop(1) = 3", "told(0, 1) = 1", "told(1, 1) = 3", "told(2, 1) = 4");
        run(four, "drop(3) = 3", "told(0, 1) = 1", "told(2, 1) = 3", "told(3, 1) = BAD");
        run(four, "4 x drop(0)", "count(1) = 0", "count(2) = 0", "count(3) = 0",
                "piece(0, 9, 0, 60) = 0");
        run("11 x piece(0, 1, 0, 60)", "piece(0, 2, 0, 60)", "drop(0) = 11", "told(10, 1) = 2",
                "told(11, 1) = BAD");
    }

    private static void promise7_bad() {
        says(7, "BAD.");
        run("drop(0) = BAD", "drop(-1) = BAD", "piece(0, 1, 0, 60)", "drop(1) = BAD",
                "drop(-1) = BAD", "drop(MIN) = BAD", "drop(MAX) = BAD", "count(1) = 1",
                "drop(0) = 0", "drop(0) = BAD", "count(5) = 2");
        run("12 x piece(0, 1, 0, 60)", "drop(12) = BAD", "drop(11) = 11", "drop(11) = BAD");
    }

    private static void promise8_what0To6() {
        says(8, "Of a PIECE: 0 KIND, 1 LENGTH, 2 FIRST, 3 LAST, 4 WAYS,");
        run("looms(3)", "piece(3, 7, 11, 13)", "told(0, 0) = 3", "told(0, 1) = 7", "told(0, 2) = 11",
                "told(0, 3) = 13", "told(0, 4) = 2");
        says(8, "BAD.");
        run("told(0, 0) = BAD", "piece(4, 7, 11, 13)", "told(0, -1) = BAD", "told(0, 7) = BAD",
                "told(0, MIN) = BAD", "told(0, MAX) = BAD", "told(-1, 0) = BAD", "told(1, 0) = BAD",
                "told(12, 0) = BAD", "told(MIN, 0) = BAD", "told(MAX, 0) = BAD", "drop(0)",
                "told(0, 0) = BAD");
    }

    private static void promise8_noneNotBarred() {
        says(8, "5 BEGIN (NONE: not BARRED), 6 STOP (NONE).");
        run(ONE_OF_EACH_KIND, "told(0, 5) = NONE", "told(0, 6) = NONE", "told(1, 5) = NONE",
                "told(1, 6) = NONE", "told(2, 5) = NONE", "told(2, 6) = NONE", "told(3, 5) = NONE",
                "told(3, 6) = NONE", "told(4, 5) = 0", "told(4, 6) = 1", "told(5, 5) = BAD",
                "told(-1, 6) = BAD", "told(0, 7) = BAD");
    }

    private static void promise9_notThereIsNone() {
        says(9, "NOT: there is none.");
        run("undo() = NOT", "undo() = NOT", "count(5) = 0", "looms(2) = 1", "undo() = 0",
                "undo() = NOT", "count(0) = 1", "count(5) = 0", "looms(3) = 1", "undo() = 0");
        run("looms(7) = BAD", "end(0) = BAD", "piece(5, 1, 0, 1) = BAD", "drop(0) = BAD",
                "undo() = NOT");
    }

    private static String ends(int from, int to) {
        StringBuilder rows = new StringBuilder();
        for (int t = from; t <= to; t++) {
            rows.append("end(").append(t).append("); ");
        }
        return rows.toString();
    }

    private static void promise9_twentyAtMost() {
        says(9, "is taken back (20 at most,");
        run(ends(1, 19), "count(5) = 19", "undo() = 18", "18 x undo()", "count(4) = 24",
                "undo() = NOT");
        run(ends(1, 20), "count(5) = 20", "undo() = 19", "count(4) = 19", "19 x undo()",
                "count(4) = 24", "count(5) = 0", "undo() = NOT", "count(4) = 24");
        run(ends(1, 21), "count(5) = 20", "undo() = 19", "19 x undo()", "count(4) = 1",
                "undo() = NOT", "count(4) = 1");
        run(ends(1, 45), "count(5) = 20", "20 x undo()", "count(4) = 25", "undo() = NOT");
        run(ends(1, 20), "5 x undo()", "count(5) = 15", ends(30, 36), "count(5) = 20",
                "20 x undo()", "count(4) = 2", "undo() = NOT");
        run(ends(1, 60), "20 x undo()", "count(4) = 40", ends(1, 20), "20 x undo()",
                "count(4) = 40", "undo() = NOT");
        run("12 x piece(0, 1, 0, 60)", "12 x drop(0)", "count(5) = 20", "20 x undo()",
                "count(1) = 4", "undo() = NOT");
    }

    private static void promise9_noneTwice() {
        says(9, "none twice): how many are left.");
        run("looms(2)", "looms(3)", "looms(4)", "undo() = 2", "count(0) = 3", "undo() = 1",
                "count(0) = 2", "undo() = 0", "count(0) = 1", "undo() = NOT");
        run("looms(2)", "looms(3)", "undo() = 1", "looms(5) = 2", "undo() = 1", "count(0) = 2",
                "undo() = 0", "count(0) = 1", "undo() = NOT");
    }

    private static void promise9_latestAccepted() {
        says(9, "The latest accepted looms(), end(), piece(), ways(), bar(), drop()");
        run("looms(1)", "count(5) = 1", "end(24)", "count(5) = 2", "piece(3, 5, 0, 9)",
                "count(5) = 3", "ways(0, 2)", "count(5) = 4", "piece(4, 5, 0, 9)", "bar(1, 0, 1)",
                "count(5) = 6", "drop(1)", "count(5) = 7", "undo() = 6", "count(1) = 2");
        run("looms(2)", "looms(7) = BAD", "end(61) = BAD", "piece(0, 0, 0, 1) = BAD",
                "ways(0, 2) = BAD", "bar(0, 0, 1) = BAD", "drop(0) = BAD", "count(5) = 1",
                "undo() = 0", "count(0) = 1");
        run("12 x piece(0, 1, 0, 60)", "piece(0, 1, 0, 60) = NOT", "ways(0, 2) = CAST",
                "bar(0, 0, 1) = CAST", "count(5) = 12", "undo() = 11", "count(1) = 11");
        run("looms(2)", "count(0)", "moment(0) = BAD", "most()", "fits()", "on(0, 0) = NONE",
                "cuts()", "crowded(0) = NOT", "fewest()", "delay()", "speed(0) = NOT",
                "days(1, 0) = NOT", "count(5) = 1", "undo() = 0", "count(0) = 1");
    }

    private static void promise9_undoOfEach() {
        says(9, "The latest accepted looms(), end(), piece(), ways(), bar(), drop() is taken back");
        run("piece(3, 9, 0, 3)", "most() = 3", "looms(3)", "most() = 6", "undo() = 1",
                "most() = 3", "fits() = 0");
        run("piece(2, 9, 0, 0)", "end(3)", "most() = 3", "count(2) = 1", "moment(1) = 3",
                "undo() = 1", "most() = 9", "moment(1) = 24");
        run("piece(0, 9, 0, 3)", "piece(0, 9, 5, 7)", "count(2) = 3", "most() = 5", "undo() = 1",
                "count(2) = 1", "most() = 3", "told(1, 0) = BAD");
        run("looms(6)", "piece(3, 9, 0, 3)", "ways(0, 3)", "fits() = 1", "undo() = 2",
                "fits() = 0", "told(0, 4) = 2");
        run("piece(4, 9, 0, 9)", "bar(0, 20, 30)", "fits() = 1", "lies(0, 0) = 9", "undo() = 1",
                "fits() = 0", "lies(0, 0) = NOT", "told(0, 6) = 1", "moment(1) = 1");
        run("piece(3, 1, 0, 9)", "piece(4, 2, 0, 9)", "piece(0, 3, 0, 9)", "ways(0, 5)",
                "bar(1, 4, 6)", "drop(0) = 2", "drop(0) = 1", "told(0, 1) = 3", "undo() = 6",
                "told(0, 5) = 4", "told(1, 1) = 3", "undo() = 5", "told(0, 4) = 5",
                "told(1, 6) = 6", "told(2, 1) = 3", "count(1) = 3");
    }

    private static void promise10_what0To5() {
        says(10, "How many: 0 LOOMS, 1 PIECES, 2 STRETCHES, 3 LENGTHS together, 4 END, "
                + "5 what can be undone.");
        run("looms(3)", "end(50)", "piece(0, 7, 1, 4)", "piece(1, 0, 2, 8)", "count(0) = 3",
                "count(1) = 2", "count(2) = 3", "count(3) = 13", "count(4) = 50", "count(5) = 4");
        says(10, "BAD.");
        run("count(-1) = BAD", "count(6) = BAD", "count(MIN) = BAD", "count(MAX) = BAD");
    }

    private static void promise10_leastAndGreatest() {
        says(10, "2 STRETCHES, 3 LENGTHS together,");
        run("count(2) = 0", "count(3) = 0", "piece(0, 1, 3, 4)", "count(2) = 1", "count(3) = 1",
                "drop(0)", "count(2) = 0", "count(3) = 0");
        run("12 x piece(0, 60, 0, 60)", "count(2) = 1", "count(3) = 720");
        run(nestedBars(12, 1), "count(2) = 47", "moment(0) = 0", "moment(23) = 23", "moment(24) = 37",
                "moment(47) = 60", "moment(48) = BAD");
    }

    /** Pieces with four moments each, none of which meet: 0 .. 23 and 37 .. 60 with twelve. */
    static String nestedBars(int pieces, int length) {
        StringBuilder rows = new StringBuilder();
        for (int i = 0; i < pieces; i++) {
            rows.append("piece(4, ").append(length).append(", ").append(i).append(", ");
            rows.append(60 - i).append("); ");
            rows.append("bar(").append(i).append(", ").append(12 + i).append(", ");
            rows.append(48 - i).append("); ");
        }
        return rows.toString();
    }

    private static void promise11_moments() {
        says(11, "MOMENTS are all FIRST, LAST, BEGIN, STOP of PIECES; STRETCHES those between "
                + "neighbouring ones, from the first on.");
        run("piece(0, 1, 3, 9)", "piece(1, 0, 3, 9)", "piece(3, 1, 3, 9)", "piece(4, 1, 3, 9)",
                "bar(3, 3, 9)", "count(2) = 1", "moment(0) = 3", "moment(1) = 9");
        run("piece(4, 1, 10, 20)", "count(2) = 3", "moment(0) = 0", "moment(1) = 1",
                "moment(2) = 10", "moment(3) = 20", "bar(0, 30, 60)", "moment(0) = 10",
                "moment(1) = 20", "moment(2) = 30", "moment(3) = 60");
        run("piece(0, 1, 9, 10)", "piece(0, 1, 0, 60)", "piece(0, 1, 5, 9)", "count(2) = 4",
                "moment(0) = 0", "moment(1) = 5", "moment(2) = 9", "moment(3) = 10",
                "moment(4) = 60");
        run("end(8)", "piece(0, 1, 3, 9)", "count(2) = 1", "piece(2, 1, 3, 9)", "count(2) = 3",
                "moment(0) = 0", "moment(1) = 3", "moment(2) = 8", "moment(3) = 9", "end(9)",
                "count(2) = 2");
    }

    private static void promise11_lastMoment() {
        says(11, "The moment at which STRETCH k begins; k = how many: the last MOMENT.");
        run("piece(1, 0, 59, 60)", "moment(0) = 59", "moment(1) = 60", "moment(2) = BAD",
                "moment(-1) = BAD", "moment(MIN) = BAD", "moment(MAX) = BAD", "moment(48) = BAD");
        run("piece(0, 1, 0, 1)", "moment(0) = 0", "moment(1) = 1", "piece(0, 1, 0, 2)",
                "moment(2) = 2", "moment(3) = BAD", "undo() = 1", "moment(2) = BAD");
    }

    private static void promise11_withoutStretches() {
        says(11, "BAD: also without STRETCHES.");
        run("moment(0) = BAD", "moment(1) = BAD", "moment(-1) = BAD", "piece(0, 1, 0, 1)",
                "moment(0) = 0", "drop(0)", "moment(0) = BAD", "moment(1) = BAD");
    }
}
