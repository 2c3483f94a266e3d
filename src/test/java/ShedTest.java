/** Promises 1 to 11: the shed. */
public final class ShedTest {
    private static final int BAD = LoomShed.BAD;
    private static final int NOT = LoomShed.NOT;
    private static final int NONE = LoomShed.NONE;
    private static final int CAST = LoomShed.CAST;
    private static final int LEAST = Integer.MIN_VALUE;
    private static final int GREATEST = Integer.MAX_VALUE;

    public static void main(String[] args) {
        promise1NewObject();
        promise2Looms();
        promise3End();
        promise4Piece();
        promise4PieceRefuses();
        promise5Ways();
        promise6Bar();
        promise7Drop();
        promise8Told();
        promise9Undo();
        promise9UndoOfEach();
        promise9UndoOfTwenty();
        promise10Count();
        promise11Moment();
        Check.finish();
    }

    private static void due(String call, long got, long want) {
        Check.due(call, got, want);
    }

    private static void promise1NewObject() {
        LoomShed x = new LoomShed();
        int[] want = {1, 0, 0, 0, 24, 0};
        for (int what = 0; what < want.length; what++) {
            due("new: count(" + what + ")", x.count(what), want[what]);
        }
        due("new: undo()", x.undo(), NOT);
        due("new: told(0, 0)", x.told(0, 0), BAD);
    }

    private static void promise2Looms() {
        LoomShed x = new LoomShed();
        due("looms(6)", x.looms(6), 1);
        due("looms(6) again", x.looms(6), 6);
        due("looms(1)", x.looms(1), 6);
        due("looms: count(5)", x.count(5), 3);
        String before = Check.stateOf(x);
        for (int n : new int[] {0, 7, -1, LEAST, GREATEST}) {
            due("looms(" + n + ")", x.looms(n), BAD);
        }
        Check.holds("refused looms() changes nothing", before.equals(Check.stateOf(x)));
    }

    private static void promise3End() {
        LoomShed x = new LoomShed();
        due("end(60)", x.end(60), 24);
        due("end(1)", x.end(1), 60);
        due("end: count(4)", x.count(4), 1);
        String before = Check.stateOf(x);
        for (int t : new int[] {0, 61, -1, LEAST, GREATEST}) {
            due("end(" + t + ")", x.end(t), BAD);
        }
        Check.holds("refused end() changes nothing", before.equals(Check.stateOf(x)));
    }

    private static void dueRow(LoomShed x, int piece, int... want) {
        for (int what = 0; what < want.length; what++) {
            due("told(" + piece + ", " + what + ")", x.told(piece, what), want[what]);
        }
    }

    private static void promise4Piece() {
        LoomShed x = new LoomShed();
        due("piece(0, 60, 0, 60)", x.piece(0, 60, 0, 60), 0);
        dueRow(x, 0, 0, 60, 0, 60, 1, NONE, NONE);
        due("piece(1, -5, 3, 9)", x.piece(1, -5, 3, 9), 1);
        dueRow(x, 1, 1, 6, 3, 9, 1, NONE, NONE);
        due("piece(2, 1, 99, -9)", x.piece(2, 1, 99, -9), 2);
        dueRow(x, 2, 2, 1, 0, 24, 1, NONE, NONE);
        due("piece(3, 7, 59, 60)", x.piece(3, 7, 59, 60), 3);
        dueRow(x, 3, 3, 7, 59, 60, 2, NONE, NONE);
        due("piece(4, 8, 5, 6)", x.piece(4, 8, 5, 6), 4);
        dueRow(x, 4, 4, 8, 5, 6, 1, 0, 1);
        due("piece(1, 0, 0, 60)", x.piece(1, 0, 0, 60), 5);
        due("told(5, 1)", x.told(5, 1), 60);
    }

    private static void duePieceBad(LoomShed x, int kind, int length, int first, int last) {
        String call = "piece(" + kind + ", " + length + ", " + first + ", " + last + ")";
        due(call, x.piece(kind, length, first, last), BAD);
    }

    private static void refuseWrongPieces(LoomShed x) {
        String before = Check.stateOf(x);
        duePieceBad(x, -1, 1, 0, 1);
        duePieceBad(x, 5, 1, 0, 1);
        duePieceBad(x, LEAST, 1, 0, 1);
        for (int kind : new int[] {0, 2, 3, 4}) {
            duePieceBad(x, kind, 0, 0, 1);
            duePieceBad(x, kind, 61, 0, 1);
            duePieceBad(x, kind, GREATEST, 0, 1);
        }
        for (int kind : new int[] {0, 1, 3, 4}) {
            duePieceBad(x, kind, 1, -1, 1);
            duePieceBad(x, kind, 1, 3, 3);
            duePieceBad(x, kind, 1, 4, 3);
            duePieceBad(x, kind, 1, 0, 61);
            duePieceBad(x, kind, 1, LEAST, GREATEST);
        }
        Check.holds("refused piece() changes nothing", before.equals(Check.stateOf(x)));
    }

    private static void promise4PieceRefuses() {
        LoomShed x = new LoomShed();
        refuseWrongPieces(x);
        for (int i = 0; i < 12; i++) {
            due("piece(0, 1, 0, 1)", x.piece(0, 1, 0, 1), i);
        }
        refuseWrongPieces(x);
        String before = Check.stateOf(x);
        due("the 13th piece", x.piece(0, 1, 0, 1), NOT);
        due("the 13th piece, tight", x.piece(1, 0, 0, 1), NOT);
        Check.holds("the 13th piece changes nothing", before.equals(Check.stateOf(x)));
    }

    private static void promise5Ways() {
        LoomShed x = new LoomShed();
        x.piece(3, 5, 0, 9);
        for (int kind : new int[] {0, 1, 2, 4}) {
            x.piece(kind, 5, 0, 9);
        }
        due("ways(0, 6)", x.ways(0, 6), 2);
        due("ways(0, 2)", x.ways(0, 2), 6);
        due("ways(0, 3)", x.ways(0, 3), 2);
        dueRow(x, 0, 3, 5, 0, 9, 3, NONE, NONE);
        String before = Check.stateOf(x);
        for (int n : new int[] {1, 7, 0, -1, LEAST, GREATEST}) {
            due("ways(0, " + n + ")", x.ways(0, n), BAD);
            due("ways(1, " + n + ")", x.ways(1, n), BAD);
        }
        for (int piece : new int[] {-1, 5, 12, LEAST, GREATEST}) {
            due("ways(" + piece + ", 2)", x.ways(piece, 2), BAD);
        }
        for (int piece = 1; piece <= 4; piece++) {
            due("ways(" + piece + ", 2)", x.ways(piece, 2), CAST);
        }
        Check.holds("refused ways() changes nothing", before.equals(Check.stateOf(x)));
    }

    private static void promise6Bar() {
        LoomShed x = new LoomShed();
        x.piece(4, 5, 10, 19);
        for (int kind = 0; kind <= 3; kind++) {
            x.piece(kind, 5, 0, 9);
        }
        due("bar(0, 0, 60)", x.bar(0, 0, 60), 1);
        due("bar(0, 59, 60)", x.bar(0, 59, 60), 1);
        dueRow(x, 0, 4, 5, 10, 19, 1, 59, 60);
        String before = Check.stateOf(x);
        int[][] wrong = {{-1, 3}, {3, 3}, {4, 3}, {0, 61}, {LEAST, GREATEST}};
        for (int[] span : wrong) {
            due("bar(0, " + span[0] + ", " + span[1] + ")", x.bar(0, span[0], span[1]), BAD);
            due("bar(1, " + span[0] + ", " + span[1] + ")", x.bar(1, span[0], span[1]), BAD);
        }
        for (int piece : new int[] {-1, 5, 12, LEAST, GREATEST}) {
            due("bar(" + piece + ", 0, 1)", x.bar(piece, 0, 1), BAD);
        }
        for (int piece = 1; piece <= 4; piece++) {
            due("bar(" + piece + ", 0, 1)", x.bar(piece, 0, 1), CAST);
        }
        Check.holds("refused bar() changes nothing", before.equals(Check.stateOf(x)));
    }

    private static void promise7Drop() {
        LoomShed x = new LoomShed();
        due("drop(0) of none", x.drop(0), BAD);
        for (int i = 1; i <= 12; i++) {
            x.piece(0, i, 0, 60);
        }
        for (int piece : new int[] {-1, 12, LEAST, GREATEST}) {
            due("drop(" + piece + ")", x.drop(piece), BAD);
        }
        due("drop(11)", x.drop(11), 11);
        due("drop(11) again", x.drop(11), BAD);
        due("drop(0)", x.drop(0), 10);
        due("drop(4)", x.drop(4), 9);
        int[] want = {2, 3, 4, 5, 7, 8, 9, 10, 11};
        for (int i = 0; i < want.length; i++) {
            due("drop: told(" + i + ", 1)", x.told(i, 1), want[i]);
        }
        due("drop: the next piece", x.piece(0, 1, 0, 1), 9);
    }

    private static void promise8Told() {
        LoomShed x = new LoomShed();
        x.piece(2, 5, 7, 8);
        due("free: told(0, 3)", x.told(0, 3), 24);
        x.end(60);
        due("free: told(0, 3) behind end(60)", x.told(0, 3), 60);
        for (int what : new int[] {-1, 7, LEAST, GREATEST}) {
            due("told(0, " + what + ")", x.told(0, what), BAD);
        }
        for (int piece : new int[] {-1, 1, 12, LEAST, GREATEST}) {
            due("told(" + piece + ", 0)", x.told(piece, 0), BAD);
            due("told(" + piece + ", 5)", x.told(piece, 5), BAD);
        }
        x.looms(1);
        x.piece(3, 5, 7, 8);
        due("ways are told though looms are fewer", x.told(1, 4), 2);
    }

    private static void promise9Undo() {
        LoomShed x = new LoomShed();
        x.looms(3);
        x.looms(9);
        x.end(30);
        due("undo() of two", x.undo(), 1);
        due("undo: count(4)", x.count(4), 24);
        due("undo: count(0)", x.count(0), 3);
        x.end(40);
        due("undo() behind a new change", x.undo(), 1);
        due("undo() of the first", x.undo(), 0);
        due("undo: count(0) at last", x.count(0), 1);
        due("undo() of none", x.undo(), NOT);
        due("undo: nothing changed", x.count(5), 0);
    }

    /** What was asked ahead of a change must be asked anew behind undo. */
    private static void promise9UndoOfEach() {
        LoomShed x = new LoomShed();
        x.piece(3, 5, 0, 9);
        x.piece(4, 5, 0, 9);
        x.piece(0, 5, 0, 9);
        String before = Check.stateOf(x);
        int most = x.most();
        due("six changes: looms", x.looms(2), 1);
        due("six changes: end", x.end(50), 24);
        due("six changes: piece", x.piece(2, 5, 0, 0), 3);
        due("six changes: ways", x.ways(0, 5), 2);
        due("six changes: bar", x.bar(1, 3, 4), 1);
        due("six changes: drop", x.drop(0), 3);
        due("six changes: most()", x.most(), 15);
        for (int left = 8; left >= 3; left--) {
            due("six changes: undo()", x.undo(), left);
        }
        Check.holds("undo gives all back", before.equals(Check.stateOf(x)));
        due("undo: most()", x.most(), most);
        x.drop(1);
        due("undo() of drop", x.undo(), 3);
        Check.holds("undo gives the dropped back", before.equals(Check.stateOf(x)));
    }

    private static void promise9UndoOfTwenty() {
        LoomShed x = new LoomShed();
        for (int t = 1; t <= 25; t++) {
            x.end(t);
            due("twenty: count(5)", x.count(5), Math.min(t, 20));
        }
        for (int left = 19; left >= 0; left--) {
            due("twenty: undo()", x.undo(), left);
            due("twenty: count(4)", x.count(4), left + 5);
        }
        due("twenty: one more", x.undo(), NOT);
        due("twenty: count(4) at last", x.count(4), 5);
    }

    private static void promise10Count() {
        LoomShed x = new LoomShed();
        x.looms(4);
        x.end(17);
        x.piece(0, 60, 2, 5);
        x.piece(1, 60, 5, 8);
        x.piece(2, 7, 60, 60);
        x.piece(4, 1, 2, 8);
        int[] want = {4, 4, 5, 71, 17, 6};
        for (int what = 0; what < want.length; what++) {
            due("count(" + what + ")", x.count(what), want[what]);
        }
        for (int what : new int[] {-1, 6, LEAST, GREATEST}) {
            due("count(" + what + ")", x.count(what), BAD);
        }
    }

    private static void promise11Moment() {
        LoomShed x = new LoomShed();
        due("moment(0) without stretches", x.moment(0), BAD);
        x.piece(4, 1, 20, 30);
        x.bar(0, 40, 50);
        x.piece(0, 9, 7, 30);
        int[] want = {7, 20, 30, 40, 50};
        due("moments: count(2)", x.count(2), 4);
        for (int k = 0; k < want.length; k++) {
            due("moment(" + k + ")", x.moment(k), want[k]);
        }
        for (int k : new int[] {-1, 5, LEAST, GREATEST}) {
            due("moment(" + k + ")", x.moment(k), BAD);
        }
        x.piece(2, 1, 0, 0);
        due("moment(0) with a free one", x.moment(0), 0);
        due("moment(3) with a free one", x.moment(3), 24);
        x.end(25);
        due("moment(3) behind end(25)", x.moment(3), 25);
    }
}
