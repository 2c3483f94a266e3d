/** The terms' words on refusals: their numbers, their order, and that they change nothing. */
final class RefusalBoundaries {
    private static final String TOO_MUCH = "2 x piece(1, 0, 0, 5)";
    private static final String NOWHERE = "piece(4, 1, 0, 1)";

    private RefusalBoundaries() {
    }

    static void all() {
        promise1_numbersOfRefusals();
        promises4To22_badAheadOfNot();
        promises8To20_badAheadOfNone();
        promise15_notAheadOfNone();
        promises5To21_castBehindBad();
        allPromises_refusedChangesNothing();
    }

    private static void says(int promise, String words) {
        BoundaryTest.says(promise, words);
    }

    private static void run(String... rows) {
        BoundaryTest.run(rows);
    }

    private static void promise1_numbersOfRefusals() {
        says(1, "public static final int BAD = -1, NOT = -2, NONE = -3, CAST = -13;");
        Check.due("BAD", LoomShed.BAD, -1);
        Check.due("NOT", LoomShed.NOT, -2);
        Check.due("NONE", LoomShed.NONE, -3);
        Check.due("CAST", LoomShed.CAST, -13);
    }

    private static void promises4To22_badAheadOfNot() {
        String words = "Refusals are answers, of several the first: BAD -1 (a number is not as "
                + "told, or names nothing), NOT -2 (as told),";
        says(4, words);
        run("12 x piece(0, 1, 0, 60)", "piece(-1, 1, 0, 1) = BAD", "piece(5, 1, 0, 1) = BAD",
                "piece(0, 0, 0, 1) = BAD", "piece(2, 61, 0, 1) = BAD", "piece(1, 1, 1, 1) = BAD",
                "piece(3, 1, -1, 1) = BAD", "piece(4, 1, 0, 61) = BAD", "piece(0, 1, 0, 1) = NOT");
        says(14, words);
        run(TOO_MUCH, "lies(-1, 0) = BAD", "lies(2, 0) = BAD", "lies(0, -1) = BAD",
                "lies(0, 1) = BAD", "lies(1, 0) = NOT");
        says(15, words);
        run(TOO_MUCH, "on(-1, 0) = BAD", "on(1, 0) = BAD", "on(0, -1) = BAD", "on(0, 60) = BAD",
                "on(0, 0) = NOT", "on(0, 59) = NOT");
        says(17, words);
        run("crowded(-1) = BAD", "crowded(3) = BAD", "crowded(0) = NOT", "crowded(2) = NOT",
                "piece(0, 1, 0, 1)", "crowded(-1) = BAD", "crowded(3) = BAD", "crowded(1) = NOT");
        says(20, words);
        run("speed(-1) = BAD", "speed(2) = BAD", "speed(0) = NOT", "speed(1) = NOT");
        says(22, words);
        run("days(0, 0) = BAD", "days(5, 0) = BAD", "days(1, -1) = BAD", "days(1, 2) = BAD",
                "days(1, 9) = BAD", "days(1, 10) = BAD", "days(1, 0) = NOT", "days(4, 1) = NOT");
        run("9 x piece(0, 1, 0, 60)", "days(0, 10) = BAD", "days(5, 10) = BAD", "days(1, 9) = BAD",
                "days(1, 19) = BAD", "days(1, 10) = NOT", "days(4, 18) = NOT");
    }

    private static void promises8To20_badAheadOfNone() {
        String words = "NONE -3 (as told).";
        says(8, words);
        run("piece(0, 1, 0, 1)", "told(1, 5) = BAD", "told(-1, 6) = BAD", "told(0, 7) = BAD",
                "told(0, 5) = NONE", "told(0, 6) = NONE");
        says(15, words);
        run("on(1, 0) = BAD", "on(-1, 0) = BAD", "on(0, 60) = BAD", "on(0, -1) = BAD",
                "on(0, 59) = NONE");
        says(20, words);
        run(NOWHERE, "speed(-1) = BAD", "speed(2) = BAD", "speed(0) = NONE", "speed(1) = NONE");
    }

    private static void promise15_notAheadOfNone() {
        says(15, "NOT -2 (as told), NONE -3 (as told).");
        run("looms(2)", "3 x piece(1, 0, 0, 5)", "on(0, 5) = NOT", "on(1, 59) = NOT",
                "on(2, 59) = BAD", "drop(0)", "on(0, 5) = NONE", "on(1, 59) = NONE");
        run(NOWHERE, "on(0, 30) = NOT", "on(0, 0) = NOT");
    }

    private static void promises5To21_castBehindBad() {
        String words = "what the machine finds (a piece of another kind: CAST -13) comes behind "
                + "BAD.";
        says(5, words);
        run("piece(0, 1, 0, 5)", "ways(0, 1) = BAD", "ways(0, 7) = BAD", "ways(1, 2) = BAD",
                "ways(-1, 2) = BAD", "ways(1, 7) = BAD", "ways(0, 2) = CAST", "ways(0, 6) = CAST");
        says(6, words);
        run("piece(3, 1, 0, 5)", "bar(0, 5, 5) = BAD", "bar(0, -1, 5) = BAD", "bar(0, 5, 61) = BAD",
                "bar(1, 0, 1) = BAD", "bar(-1, 0, 1) = BAD", "bar(0, 0, 1) = CAST",
                "bar(0, 59, 60) = CAST");
        says(21, words);
        run("piece(0, 1, 0, 5)", "piece(4, 1, 0, 5)", "level(0, -1) = BAD", "level(0, 2) = BAD",
                "level(-1, 0) = BAD", "level(2, 0) = BAD", "level(0, 0) = CAST",
                "level(1, 1) = CAST");
    }

    /** Twenty changes are kept; each refusal of each call is tried on them; all can be undone. */
    private static void allPromises_refusedChangesNothing() {
        says(9, "What is refused changes nothing;");
        String changes = "3 x end(7); looms(2); end(20); piece(0, 4, 0, 9); piece(1, 0, 3, 8); "
                + "piece(2, 6, 0, 0); piece(3, 7, 2, 11); piece(4, 5, 1, 12); ways(3, 5); "
                + "bar(4, 6, 7); 5 x piece(0, 2, 30, 40); drop(7); drop(6); 2 x piece(3, 1, 50, 60); "
                + "piece(0, 3, 20, 60); piece(4, 5, 0, 10)";
        String refused = "looms(0) = BAD; looms(7) = BAD; end(0) = BAD; end(61) = BAD; "
                + "piece(5, 1, 0, 1) = BAD; piece(0, 0, 0, 1) = BAD; piece(0, 61, 0, 1) = BAD; "
                + "piece(0, 1, 1, 1) = BAD; piece(0, 1, 0, 61) = BAD; piece(0, 1, 0, 1) = NOT; "
                + "ways(3, 1) = BAD; ways(3, 7) = BAD; ways(12, 2) = BAD; ways(0, 3) = CAST; "
                + "ways(4, 3) = CAST; bar(4, 7, 7) = BAD; bar(4, 0, 61) = BAD; bar(12, 0, 1) = BAD; "
                + "bar(3, 2, 9) = CAST; bar(0, 2, 9) = CAST; drop(12) = BAD; drop(-1) = BAD; "
                + "told(12, 0) = BAD; told(0, 7) = BAD; told(0, 5) = NONE; count(6) = BAD; "
                + "moment(-1) = BAD; moment(99) = BAD; lies(12, 0) = BAD; lies(0, 99) = BAD; "
                + "on(2, 0) = BAD; on(0, 60) = BAD; crowded(3) = BAD; speed(2) = BAD; "
                + "level(12, 0) = BAD; level(0, 0) = CAST; days(5, 0) = BAD; days(1, 0) = NOT; "
                + "days(1, 22) = BAD";
        run(changes, refused, "count(0) = 2", "count(1) = 12", "count(4) = 20", "count(5) = 20",
                refused, "undo() = 19", "count(1) = 11", "18 x undo()", "undo() = 0",
                "undo() = NOT", "undo() = NOT");
    }
}
