/** Promises 12 to 17: fitting. */
public final class FittingTest {
    private static final int BAD = LoomShed.BAD;
    private static final int NOT = LoomShed.NOT;
    private static final int NONE = LoomShed.NONE;
    private static final int LEAST = Integer.MIN_VALUE;
    private static final int GREATEST = Integer.MAX_VALUE;

    public static void main(String[] args) {
        promise12Most();
        promise13Fits();
        promise13FitsBehindTheEnd();
        promise14Lies();
        promise14LiesGivesWay();
        promise14LiesOfTheFirst();
        promise14LiesOfSplit();
        promise14LiesRefuses();
        promise15On();
        promise15OnRefuses();
        promise16Cuts();
        promise17Crowded();
        promise17CrowdedFewest();
        promise17CrowdedLate();
        mostMoments();
        Check.finish();
    }

    private static void due(String call, long got, long want) {
        Check.due(call, got, want);
    }

    private static void promise12Most() {
        LoomShed x = new LoomShed();
        due("most() without pieces", x.most(), 0);
        x.piece(0, 5, 0, 3);
        due("most() of one too long", x.most(), 3);
        x.piece(0, 2, 1, 4);
        due("most() of two", x.most(), 4);
        x.looms(2);
        due("most() on two looms", x.most(), 5);
        x.piece(3, 60, 10, 20);
        due("most() with a split one", x.most(), 25);
        x.looms(1);
        due("most() with ways beyond looms", x.most(), 14);
        x.looms(6);
        x.ways(2, 6);
        due("most() with six ways", x.most(), 65);
        x.piece(4, 3, 30, 33);
        x.bar(3, 31, 32);
        due("most() with a barred one", x.most(), 67);
        LoomShed y = new LoomShed();
        y.piece(0, 2, 0, 15);
        y.piece(0, 3, 0, 5);
        y.piece(0, 3, 0, 5);
        due("most() with one that can give way but in part", y.most(), 7);
    }

    private static void promise13Fits() {
        LoomShed x = new LoomShed();
        due("fits() without pieces", x.fits(), 1);
        x.piece(1, 0, 0, 60);
        due("fits() of one tight", x.fits(), 1);
        x.piece(0, 1, 5, 60);
        due("fits() of one too much", x.fits(), 0);
        x.looms(2);
        due("fits() on two looms", x.fits(), 1);
        x.piece(4, 1, 0, 1);
        due("fits() of one barred everywhere", x.fits(), 0);
        x.bar(2, 1, 2);
        due("fits() of one barred elsewhere", x.fits(), 1);
    }

    private static void promise13FitsBehindTheEnd() {
        LoomShed x = new LoomShed();
        x.end(5);
        x.piece(0, 10, 40, 50);
        due("fits() behind the end", x.fits(), 1);
        x.piece(2, 6, 0, 0);
        due("fits() of a free one too long", x.fits(), 0);
        x.end(6);
        due("fits() of a free one", x.fits(), 1);
    }

    private static void promise14Lies() {
        LoomShed x = new LoomShed();
        x.looms(2);
        x.piece(0, 4, 0, 6);
        x.piece(0, 3, 2, 5);
        x.piece(2, 5, 0, 0);
        x.end(12);
        int[][] want = {{2, 2, 0, 0}, {0, 3, 0, 0}, {2, 1, 1, 1}};
        for (int piece = 0; piece < 3; piece++) {
            for (int s = 0; s < 4; s++) {
                due("lies(" + piece + ", " + s + ")", x.lies(piece, s), want[piece][s]);
            }
        }
    }

    /** The later piece has but one place, so that the earlier one goes on behind it. */
    private static void promise14LiesGivesWay() {
        LoomShed x = new LoomShed();
        x.piece(0, 2, 0, 4);
        x.piece(0, 2, 0, 2);
        due("gives way: lies(0, 0)", x.lies(0, 0), 0);
        due("gives way: lies(0, 1)", x.lies(0, 1), 2);
        due("gives way: lies(1, 0)", x.lies(1, 0), 2);
        due("gives way: lies(1, 1)", x.lies(1, 1), 0);
        x.drop(1);
        due("alone: lies(0, 0)", x.lies(0, 0), 2);
        x.piece(0, 2, 0, 3);
        due("gives way half: lies(0, 0)", x.lies(0, 0), 1);
        due("gives way half: lies(0, 1)", x.lies(0, 1), 1);
        due("gives way half: lies(1, 0)", x.lies(1, 0), 2);
    }

    /** The last piece needs room ahead: not the first one gives way, but the second. */
    private static void promise14LiesOfTheFirst() {
        LoomShed x = new LoomShed();
        x.piece(0, 1, 0, 4);
        x.piece(0, 1, 0, 4);
        x.piece(0, 1, 0, 2);
        int[][] want = {{1, 0}, {0, 1}, {1, 0}};
        for (int piece = 0; piece < 3; piece++) {
            for (int s = 0; s < 2; s++) {
                due("first: lies(" + piece + ", " + s + ")", x.lies(piece, s), want[piece][s]);
            }
        }
    }

    private static void promise14LiesOfSplit() {
        LoomShed x = new LoomShed();
        x.looms(3);
        x.piece(3, 7, 0, 4);
        x.piece(1, 0, 0, 2);
        due("split: lies(0, 0)", x.lies(0, 0), 4);
        due("split: lies(0, 1)", x.lies(0, 1), 3);
        x.ways(0, 6);
        due("split in six: lies(0, 0)", x.lies(0, 0), 4);
        x.looms(6);
        due("split in six on six: lies(0, 0)", x.lies(0, 0), 7);
    }

    private static void promise14LiesRefuses() {
        LoomShed x = new LoomShed();
        due("lies(0, 0) without pieces", x.lies(0, 0), BAD);
        x.piece(1, 0, 0, 5);
        for (int wrong : new int[] {-1, 1, 47, LEAST, GREATEST}) {
            due("lies(0, " + wrong + ")", x.lies(0, wrong), BAD);
            due("lies(" + wrong + ", 0)", x.lies(wrong, 0), BAD);
        }
        due("lies(0, 0)", x.lies(0, 0), 5);
        x.piece(1, 0, 0, 5);
        due("lies(0, 0) of what does not fit", x.lies(0, 0), NOT);
        due("lies(0, 1): BAD ahead of NOT", x.lies(0, 1), BAD);
    }

    private static void promise15On() {
        LoomShed x = new LoomShed();
        due("on(0, 0) without pieces", x.on(0, 0), NONE);
        x.looms(2);
        for (int i = 0; i < 3; i++) {
            x.piece(0, 2, 5, 8);
        }
        int[][] want = {{0, 0, 1}, {1, 2, 2}};
        for (int loom = 0; loom < 2; loom++) {
            for (int t = 0; t < 60; t++) {
                int due = t < 5 || t > 7 ? NONE : want[loom][t - 5];
                due("on(" + loom + ", " + t + ")", x.on(loom, t), due);
            }
        }
        x.looms(3);
        due("on(0, 7) with a loom more", x.on(0, 7), 1);
        due("on(1, 7) with a loom more", x.on(1, 7), 2);
        due("on(2, 5) with a loom more", x.on(2, 5), NONE);
    }

    private static void promise15OnRefuses() {
        LoomShed x = new LoomShed();
        x.piece(1, 0, 59, 60);
        due("on(0, 59)", x.on(0, 59), 0);
        due("on(0, 58)", x.on(0, 58), NONE);
        for (int fits = 1; fits >= 0; fits--) {
            due("on: fits()", x.fits(), fits);
            for (int t : new int[] {-1, 60, LEAST, GREATEST}) {
                due("on(0, " + t + ")", x.on(0, t), BAD);
            }
            for (int loom : new int[] {-1, 1, 6, LEAST, GREATEST}) {
                due("on(" + loom + ", 0)", x.on(loom, 0), BAD);
            }
            x.piece(1, 0, 59, 60);
        }
        due("on(0, 59) of what does not fit", x.on(0, 59), NOT);
    }

    private static void promise16Cuts() {
        LoomShed x = new LoomShed();
        due("cuts() without pieces", x.cuts(), 0);
        x.piece(0, 4, 0, 6);
        due("cuts() of one", x.cuts(), 0);
        x.piece(1, 0, 2, 4);
        due("cuts() by a tight one", x.cuts(), 1);
        x.piece(0, 1, 5, 6);
        due("cuts() of what does not fit", x.cuts(), NOT);
        x.looms(2);
        // [0, 2) 0 0 | [2, 4) loom 0: 0 0, loom 1: 1 1 | [5, 6) loom 0: 2
        due("cuts() on two looms", x.cuts(), 0);
        LoomShed y = new LoomShed();
        y.looms(2);
        for (int i = 0; i < 3; i++) {
            y.piece(0, 2, 5, 8);
        }
        due("cuts() of one that goes on on the next loom", y.cuts(), 1);
    }

    private static void dueCrowded(LoomShed x, String name, int pieces, int early, int late) {
        due(name + ": crowded(0)", x.crowded(0), pieces);
        due(name + ": crowded(1)", x.crowded(1), early);
        due(name + ": crowded(2)", x.crowded(2), late);
    }

    private static void promise17Crowded() {
        LoomShed x = new LoomShed();
        dueCrowded(x, "no pieces", NOT, NOT, NOT);
        x.piece(0, 5, 0, 3);
        dueCrowded(x, "one too long", 1, 0, 0);
        x.piece(0, 2, 1, 4);
        dueCrowded(x, "two", 3, 2, 0);
        for (int what : new int[] {-1, 3, LEAST, GREATEST}) {
            due("crowded(" + what + ")", x.crowded(what), BAD);
        }
        x.drop(0);
        dueCrowded(x, "one that fits", NOT, NOT, NOT);
        due("crowded(3): BAD ahead of NOT", x.crowded(3), BAD);
    }

    /** The crowded two are told, not what lies beside them, and not what just fills its span. */
    private static void promise17CrowdedFewest() {
        LoomShed x = new LoomShed();
        x.piece(1, 0, 0, 4);
        x.piece(1, 0, 10, 14);
        x.piece(0, 2, 10, 13);
        x.piece(0, 3, 14, 20);
        x.piece(2, 6, 0, 0);
        dueCrowded(x, "fewest", 0b00110, 1 << 2, 0);
    }

    private static LoomShed manyStretches(int first, int last) {
        LoomShed x = new LoomShed();
        for (int i = 0; i < 10; i++) {
            x.piece(4, 1, i, 60 - i);
            x.bar(i, 12 + i, 48 - i);
        }
        x.piece(1, 0, first, last);
        x.piece(1, 0, first, last);
        due("many: count(2)", x.count(2), 39);
        return x;
    }

    /** Moments are 0 .. 9, 12 .. 21, 39 .. 48, 51 .. 60: stretch 30 begins at 51. */
    private static void promise17CrowdedLate() {
        dueCrowded(manyStretches(58, 60), "late", 3 << 10, 0, 3 << 6);
        dueCrowded(manyStretches(51, 53), "about the 31st", 3 << 10, 1 << 30, 1);
        dueCrowded(manyStretches(0, 2), "early", 3 << 10, 3, 0);
    }

    /** Twelve barred pieces with 48 moments: 0 .. 23 and 37 .. 60. */
    private static void mostMoments() {
        LoomShed x = new LoomShed();
        for (int i = 0; i < 12; i++) {
            x.piece(4, 24, i, 60 - i);
            x.bar(i, 12 + i, 48 - i);
        }
        due("most moments: count(2)", x.count(2), 47);
        due("most moments: moment(23)", x.moment(23), 23);
        due("most moments: moment(24)", x.moment(24), 37);
        due("most moments: moment(47)", x.moment(47), 60);
        due("most moments: moment(48)", x.moment(48), BAD);
        due("most moments: most()", x.most(), 46);
        due("most moments: lies(11, 46)", x.lies(11, 46), NOT);
        x.looms(6);
        // the pieces take 1, 2, .. 11, 12, 11, .. 1 in the hours of each half
        due("most moments: most() on six", x.most(), 2 * (6 * 13 + 2 * 15));
        // stretches 6 .. 16, and 30 .. 40, are wanted by seven and more
        dueCrowded(x, "most moments", (1 << 12) - 1, 0x7ff << 6 | 1 << 30, 0x3ff);
        due("most moments: fewest()", x.fewest(), 12);
        due("most moments: speed(0)", x.speed(0), 4);
        due("most moments: speed(1)", x.speed(1), 3);
    }
}
