/** Promises 18 to 22: what least would do. */
public final class LeastTest {
    private static final int BAD = LoomShed.BAD;
    private static final int NOT = LoomShed.NOT;
    private static final int NONE = LoomShed.NONE;
    private static final int CAST = LoomShed.CAST;
    private static final int LEAST = Integer.MIN_VALUE;
    private static final int GREATEST = Integer.MAX_VALUE;

    public static void main(String[] args) {
        promise18Fewest();
        promise19Delay();
        promise19DelayEdges();
        promise20Speed();
        promise20SpeedRefuses();
        promise21Level();
        promise21LevelOfTwelve();
        promise21LevelRefuses();
        promise22Days();
        promise22DaysFirst();
        promise22DaysRefuses();
        askingChangesNothing();
        Check.finish();
    }

    private static void due(String call, long got, long want) {
        Check.due(call, got, want);
    }

    private static LoomShed shedOf(int looms, int[]... pieces) {
        LoomShed x = new LoomShed();
        x.looms(looms);
        for (int[] p : pieces) {
            x.piece(p[0], p[1], p[2], p[3]);
        }
        return x;
    }

    private static void promise18Fewest() {
        LoomShed x = new LoomShed();
        due("fewest() without pieces", x.fewest(), 1);
        for (int n = 1; n <= 12; n++) {
            x.piece(1, 0, 0, 5);
            due("fewest() of " + n + " tight ones", x.fewest(), n);
        }
        due("fewest() beside one too long", shedOf(1, new int[] {0, 6, 0, 5}).fewest(), NONE);
        LoomShed y = shedOf(1, new int[] {3, 60, 0, 10});
        due("fewest() of a split one in two", y.fewest(), NONE);
        y.ways(0, 6);
        due("fewest() of a split one in six", y.fewest(), 6);
        y.piece(3, 60, 0, 10);
        y.ways(1, 6);
        due("fewest() of two split ones", y.fewest(), 12);
        y.piece(0, 1, 0, 10);
        due("fewest() of more than twelve do", y.fewest(), NONE);
        LoomShed z = shedOf(6, new int[] {0, 5, 0, 6}, new int[] {0, 5, 0, 6}, new int[] {0, 2, 0, 6});
        due("fewest() below what there is", z.fewest(), 2);
    }

    private static void promise19Delay() {
        LoomShed x = new LoomShed();
        due("delay() without pieces", x.delay(), 0);
        x.piece(1, 0, 0, 5);
        due("delay() of what fits", x.delay(), 0);
        x.piece(1, 0, 0, 5);
        due("delay() of two tight ones", x.delay(), 5);
        due("delay: the length stays", x.told(1, 1), 5);
        x.piece(2, 20, 0, 0);
        due("delay() with a free one", x.delay(), 6);
        x.looms(2);
        due("delay() on two looms", x.delay(), 1);
        LoomShed y = shedOf(1, new int[] {4, 3, 0, 10});
        y.bar(0, 0, 60);
        due("delay() behind a bar", y.delay(), 53);
        LoomShed z = shedOf(3, new int[] {3, 60, 0, 1});
        due("delay() of a split one", z.delay(), 29);
        z.ways(0, 6);
        due("delay() of ways beyond looms", z.delay(), 19);
    }

    private static void promise19DelayEdges() {
        int[] long40 = {0, 60, 0, 40};
        int[] long39 = {0, 60, 0, 39};
        due("delay() of 200", shedOf(1, long40, long40, long40, long40).delay(), 200);
        due("delay() beyond 200", shedOf(1, long39, long39, long39, long39).delay(), NONE);
        LoomShed x = new LoomShed();
        for (int i = 0; i < 12; i++) {
            x.piece(0, 60, 0, 60);
        }
        due("delay() of the most", x.delay(), NONE);
        x.looms(2);
        due("delay() of the most on two", x.delay(), NONE);
        x.looms(3);
        due("delay() of the most on three", x.delay(), 180);
    }

    private static void dueSpeed(String name, LoomShed x, int above, int below) {
        due(name + ": speed(0)", x.speed(0), above);
        due(name + ": speed(1)", x.speed(1), below);
    }

    private static void promise20Speed() {
        dueSpeed("one short", shedOf(1, new int[] {0, 1, 0, 5}), 1, 5);
        dueSpeed("one tight", shedOf(6, new int[] {1, 0, 0, 5}), 1, 1);
        LoomShed apart = shedOf(1, new int[] {0, 6, 0, 4}, new int[] {0, 1, 10, 20});
        dueSpeed("two apart", apart, 3, 2);
        LoomShed nested = shedOf(1, new int[] {0, 5, 0, 12}, new int[] {0, 4, 0, 6},
                new int[] {0, 3, 2, 5}, new int[] {1, 0, 4, 6});
        dueSpeed("nested", nested, 3, 2);
        dueSpeed("shared by two looms", shedOf(2, new int[] {0, 5, 0, 7}, new int[] {0, 5, 0, 7},
                new int[] {0, 5, 0, 7}), 15, 14);
        LoomShed split = shedOf(3, new int[] {3, 9, 0, 3});
        dueSpeed("split", split, 3, 2);
        split.ways(0, 5);
        dueSpeed("split in five on three looms", split, 1, 1);
        LoomShed barred = shedOf(1, new int[] {4, 4, 0, 4});
        dueSpeed("barred", barred, 4, 3);
        barred.bar(0, 4, 5);
        dueSpeed("barred elsewhere", barred, 1, 1);
        dueSpeed("greatest", shedOf(1, new int[] {0, 60, 0, 1}, new int[] {0, 60, 0, 1}), 120, 1);
    }

    private static void promise20SpeedRefuses() {
        LoomShed x = new LoomShed();
        for (int what : new int[] {-1, 2, LEAST, GREATEST}) {
            due("speed(" + what + ")", x.speed(what), BAD);
        }
        due("speed(0) without pieces", x.speed(0), NOT);
        due("speed(1) without pieces", x.speed(1), NOT);
        x.piece(0, 1, 0, 5);
        x.piece(4, 1, 0, 1);
        due("speed(0) of one that may lie nowhere", x.speed(0), NONE);
        due("speed(1) of one that may lie nowhere", x.speed(1), NONE);
        due("speed(2): BAD ahead of NONE", x.speed(2), BAD);
        x.drop(1);
        dueSpeed("behind drop", x, 1, 5);
    }

    private static void dueLevel(String name, LoomShed x, int piece, int above, int below) {
        due(name + ": level(" + piece + ", 0)", x.level(piece, 0), above);
        due(name + ": level(" + piece + ", 1)", x.level(piece, 1), below);
    }

    private static void promise21Level() {
        LoomShed x = shedOf(3, new int[] {0, 4, 0, 10}, new int[] {0, 6, 4, 6});
        dueLevel("looms do not matter", x, 0, 1, 2);
        dueLevel("within", x, 1, 3, 1);
        x.drop(1);
        dueLevel("alone", x, 0, 2, 5);
        x.piece(1, 0, 10, 12);
        dueLevel("beside a tight one", x, 0, 2, 5);
        dueLevel("tight", x, 1, 1, 1);
        x.piece(2, 5, 0, 0);
        // behind [10, 12) at 1: all 9 in 22 hours, but 4 of them in 10: 2/5 is less than 9/22
        dueLevel("free", x, 2, 9, 22);
        dueLevel("evened by the free one", x, 0, 9, 22);
        x.end(60);
        dueLevel("free behind end(60)", x, 2, 5, 48);
        dueLevel("free behind end(60)", x, 0, 2, 5);
        // [3, 5) at 2 taken out, [0, 6) is four hours with 3, then [0, 10) four with 1
        LoomShed y = shedOf(1, new int[] {0, 1, 0, 10}, new int[] {0, 3, 0, 6},
                new int[] {0, 4, 3, 5});
        dueLevel("third", y, 0, 1, 4);
        dueLevel("second", y, 1, 3, 4);
        dueLevel("first", y, 2, 2, 1);
    }

    private static void promise21LevelOfTwelve() {
        LoomShed x = new LoomShed();
        for (int i = 0; i < 12; i++) {
            x.piece(0, i + 1, 5 * i, 5 * i + 5);
        }
        for (int i = 0; i < 12; i++) {
            boolean isWhole = (i + 1) % 5 == 0;
            dueLevel("twelve", x, i, isWhole ? (i + 1) / 5 : i + 1, isWhole ? 1 : 5);
        }
    }

    private static void promise21LevelRefuses() {
        LoomShed x = new LoomShed();
        due("level(0, 0) without pieces", x.level(0, 0), BAD);
        x.piece(0, 1, 0, 5);
        for (int split = 0; split <= 1; split++) {
            for (int what : new int[] {-1, 2, LEAST, GREATEST}) {
                due("level(0, " + what + ")", x.level(0, what), BAD);
            }
            for (int piece : new int[] {-1, 2, 12, LEAST, GREATEST}) {
                due("level(" + piece + ", 0)", x.level(piece, 0), BAD);
            }
            x.piece(3, 1, 0, 5);
        }
        due("level(0, 0) beside a split one", x.level(0, 0), CAST);
        due("level(1, 1) of a split one", x.level(1, 1), CAST);
        x.drop(1);
        x.drop(1);
        dueLevel("behind drop", x, 0, 1, 5);
        x.piece(4, 1, 0, 5);
        due("level(0, 0) beside a barred one", x.level(0, 0), CAST);
        x.undo();
        dueLevel("behind undo", x, 0, 1, 5);
    }

    private static void dueDays(String name, LoomShed x, int n, int above, int below, int... days) {
        due(name + ": days(" + n + ", 0)", x.days(n, 0), above);
        due(name + ": days(" + n + ", 1)", x.days(n, 1), below);
        for (int p = 0; p < days.length; p++) {
            due(name + ": days(" + n + ", 10 + " + p + ")", x.days(n, 10 + p), days[p]);
        }
    }

    private static LoomShed shedOfLengths(int looms, int... lengths) {
        LoomShed x = new LoomShed();
        x.looms(looms);
        for (int length : lengths) {
            x.piece(0, length, 0, 1);
        }
        return x;
    }

    private static void promise22Days() {
        dueDays("halves", shedOfLengths(1, 3, 3, 2, 2, 2), 2, 6, 1, 0, 0, 1, 1, 1);
        dueDays("the longest", shedOfLengths(3, 9, 1, 1), 1, 9, 1, 0, 0, 0);
        dueDays("a fraction", shedOfLengths(2, 5, 5, 5), 1, 15, 2, 0, 0, 0);
        dueDays("a fraction made less", shedOfLengths(6, 1, 1, 1, 1, 1, 1, 1, 1), 1, 4, 3);
        dueDays("four days", shedOfLengths(1, 7, 5, 4, 3), 4, 7, 1, 0, 1, 2, 2);
        LoomShed kinds = shedOf(1, new int[] {1, 0, 3, 7}, new int[] {2, 4, 0, 0},
                new int[] {3, 4, 0, 9}, new int[] {4, 4, 0, 9});
        dueDays("all kinds", kinds, 2, 8, 1, 0, 0, 1, 1);
        dueDays("all kinds on four days", kinds, 4, 4, 1, 0, 1, 2, 3);
        dueDays("all kinds on two days again", kinds, 2, 8, 1, 0, 0, 1, 1);
    }

    private static void promise22DaysFirst() {
        dueDays("first", shedOfLengths(1, 5, 1, 1), 3, 5, 1, 0, 1, 1);
        dueDays("first of many", shedOfLengths(1, 1, 9, 1, 1, 1, 1, 1, 1), 4, 9, 1,
                0, 1, 0, 0, 0, 0, 0, 0);
        dueDays("more days than pieces", shedOfLengths(1, 4), 4, 4, 1, 0);
    }

    private static void promise22DaysRefuses() {
        LoomShed x = new LoomShed();
        due("days(1, 0) without pieces", x.days(1, 0), NOT);
        due("days(1, 10) without pieces", x.days(1, 10), BAD);
        for (int i = 0; i < 8; i++) {
            x.piece(0, 1, 0, 1);
        }
        dueDays("eight", x, 4, 2, 1, 0, 0, 1, 1, 2, 2, 3, 3);
        x.piece(0, 1, 0, 1);
        due("days(1, 0) of nine", x.days(1, 0), NOT);
        due("days(1, 18) of nine", x.days(1, 18), NOT);
        due("days(1, 19) of nine", x.days(1, 19), BAD);
        for (int pieces = 9; pieces >= 8; pieces--) {
            for (int n : new int[] {0, 5, -1, LEAST, GREATEST}) {
                due("days(" + n + ", 0)", x.days(n, 0), BAD);
            }
            for (int what : new int[] {-1, 2, 9, 22, LEAST, LEAST + 9, GREATEST}) {
                due("days(1, " + what + ")", x.days(1, what), BAD);
            }
            x.drop(0);
        }
    }

    private static void askingChangesNothing() {
        LoomShed x = shedOf(2, new int[] {0, 9, 0, 6}, new int[] {1, 0, 2, 5}, new int[] {2, 5, 0, 0});
        String before = Check.stateOf(x);
        int most = x.most();
        int crowded = x.crowded(0);
        x.fewest();
        x.delay();
        x.speed(0);
        x.level(0, 0);
        x.days(3, 0);
        Check.holds("asking changes nothing", before.equals(Check.stateOf(x)));
        due("most() behind asking", x.most(), most);
        due("crowded(0) behind asking", x.crowded(0), crowded);
    }
}
