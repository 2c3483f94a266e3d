import java.util.Random;

/** Runs of calls on the program and on the slow shed: the answers are the same, whatever is asked. */
public final class RandomRunsTest {
    private static final int[] WILD = {
        Integer.MIN_VALUE, Integer.MIN_VALUE + 9, -100, -13, -3, -2, -1, 7, 12, 13, 22, 47, 48, 60,
        61, 100, Integer.MAX_VALUE - 9, Integer.MAX_VALUE};

    private final Random random;
    private final int mostPieces;
    private final int latest;
    private final int longest;
    /** In runs with a step of more than 1 moments often meet, and stretches are shared by many. */
    private final int step;
    private final LoomShed fast = new LoomShed();
    private final SlowShed slow = new SlowShed();
    private int calls;

    private RandomRunsTest(int seed, int mostPieces) {
        random = new Random(seed);
        this.mostPieces = mostPieces;
        latest = random.nextBoolean() ? 60 : 4 + random.nextInt(20);
        longest = 1 + random.nextInt(random.nextBoolean() ? 60 : 8);
        step = random.nextBoolean() ? 1 : 1 + random.nextInt(latest / 2);
    }

    public static void main(String[] args) {
        int factor = args.length > 0 ? Integer.parseInt(args[0]) : 1;
        for (int seed = 0; seed < 400 * factor; seed++) {
            new RandomRunsTest(seed, 1 + seed % 6).run(512);
        }
        for (int seed = 0; seed < 6 * factor; seed++) {
            new RandomRunsTest(-1 - seed, 12).run(60);
        }
        for (int seed = 0; seed < 1500 * factor; seed++) {
            new RandomRunsTest(seed, 2 + seed % 5).weave(false);
        }
        for (int seed = 0; seed < 4 * factor; seed++) {
            new RandomRunsTest(seed, 12).weave(true);
        }
        Check.finish();
    }

    private void run(int most) {
        fast.looms(1 + random.nextInt(6));
        slow.looms(fast.count(0));
        while (calls < most) {
            change();
            for (int i = random.nextInt(4); i > 0; i--) {
                ask();
            }
            if (random.nextInt(12) == 0) {
                askAll();
            }
        }
        askAll();
    }

    /**
     * Pieces cut from a cloth that was woven at random: they fit, and leave little room, so that
     * the cloth due can be found by moving many amounts alone.
     */
    private void weave(boolean hasManyMoments) {
        int looms = 1 + random.nextInt(random.nextBoolean() ? 2 : 6);
        int[][] rows = new int[mostPieces][];
        for (int p = 0; p < mostPieces; p++) {
            rows[p] = hasManyMoments ? nestedRow(p) : randomRow();
        }
        cutLengths(rows, looms);
        same("looms", fast.looms(looms), slow.looms(looms), looms);
        for (int[] row : rows) {
            if (row[1] > 0) {
                addRow(row);
            }
        }
        same("fits", slow.fits(), 1);
        askAll();
        askHours();
    }

    /** Kind, length (to be told yet), first, last, ways, begin, stop. */
    private int[] randomRow() {
        int kind = new int[] {0, 0, 3, 4}[random.nextInt(4)];
        int first = random.nextInt(latest) / step * step;
        int last = Math.min(latest, first + (1 + random.nextInt(latest / step)) * step);
        int begin = random.nextInt(latest) / step * step;
        int stop = Math.min(latest, begin + (1 + random.nextInt(latest / step)) * step);
        return new int[] {kind, 0, first, last, kind == 3 ? 2 + random.nextInt(5) : 1, begin, stop};
    }

    /** Twelve of these have 48 moments, the most there can be. */
    private int[] nestedRow(int p) {
        return new int[] {4, 0, p, 60 - p, 1, 12 + p, 48 - p};
    }

    /** Hour by hour the looms go to pieces, from a piece at random on. */
    private void cutLengths(int[][] rows, int looms) {
        int idle = random.nextInt(4);
        for (int t = 0; t < 60; t++) {
            int room = looms - (random.nextInt(4) < idle ? random.nextInt(looms) : 0);
            int start = random.nextInt(rows.length);
            for (int i = 0; i < rows.length; i++) {
                int[] row = rows[(start + i) % rows.length];
                boolean isBarred = row[0] == 4 && row[5] <= t && t < row[6];
                if (row[2] <= t && t < row[3] && !isBarred) {
                    int amount = Math.min(60 - row[1], Math.min(room, row[4]));
                    row[1] += amount;
                    room -= amount;
                }
            }
        }
    }

    private void addRow(int[] row) {
        int piece = slow.count(1);
        same("piece", fast.piece(row[0], row[1], row[2], row[3]),
                slow.piece(row[0], row[1], row[2], row[3]), row);
        if (row[0] == 3) {
            same("ways", fast.ways(piece, row[4]), slow.ways(piece, row[4]), row);
        }
        if (row[0] == 4) {
            same("bar", fast.bar(piece, row[5], row[6]), slow.bar(piece, row[5], row[6]), row);
        }
    }

    private void askHours() {
        for (int loom = 0; loom < slow.count(0); loom++) {
            for (int t = 0; t < 60; t++) {
                same("on", fast.on(loom, t), slow.on(loom, t), loom, t);
            }
        }
    }

    private void same(String call, int got, int want, int... args) {
        calls++;
        StringBuilder text = new StringBuilder(call);
        for (int arg : args) {
            text.append(' ').append(arg);
        }
        Check.due(text.toString(), got, want);
    }

    private int number(int least, int most) {
        if (random.nextInt(40) == 0) {
            return WILD[random.nextInt(WILD.length)];
        }
        return least + random.nextInt(most - least + 1);
    }

    private int moment(int least, int most) {
        return number(least, most) / step * step;
    }

    /** Behind another one, if that is a moment. */
    private int momentBehind(int t) {
        int least = t < latest && t >= 0 ? t + 1 : 1;
        if (step == 1) {
            return number(least, latest);
        }
        return Math.min(latest, moment(least, latest) + step);
    }

    private int pieceNumber() {
        return number(0, Math.max(0, slow.count(1) - 1));
    }

    private void change() {
        int n;
        int p = pieceNumber();
        switch (random.nextInt(9)) {
            case 0:
                n = number(1, 6);
                same("looms", fast.looms(n), slow.looms(n), n);
                break;
            case 1:
                n = momentBehind(0);
                same("end", fast.end(n), slow.end(n), n);
                break;
            case 2:
                n = number(2, 6);
                same("ways", fast.ways(p, n), slow.ways(p, n), p, n);
                break;
            case 3:
                n = moment(0, latest - 1);
                int stop = momentBehind(n);
                same("bar", fast.bar(p, n, stop), slow.bar(p, n, stop), p, n, stop);
                break;
            case 4:
                same("drop", fast.drop(p), slow.drop(p), p);
                break;
            case 5:
                same("undo", fast.undo(), slow.undo());
                break;
            default:
                addPiece();
        }
    }

    private void addPiece() {
        if (slow.count(1) >= mostPieces && mostPieces < 12) {
            int p = pieceNumber();
            same("drop", fast.drop(p), slow.drop(p), p);
            return;
        }
        int kind = number(0, random.nextBoolean() ? 4 : 2);
        int length = number(1, longest);
        int first = moment(0, latest - 1);
        int last = momentBehind(first);
        same("piece", fast.piece(kind, length, first, last), slow.piece(kind, length, first, last),
                kind, length, first, last);
    }

    private void ask() {
        int p = pieceNumber();
        int n = number(0, 6);
        int what = number(0, 1);
        int t = number(0, latest);
        switch (random.nextInt(15)) {
            case 0: same("told", fast.told(p, n), slow.told(p, n), p, n); break;
            case 1: same("count", fast.count(n), slow.count(n), n); break;
            case 2: same("moment", fast.moment(n), slow.moment(n), n); break;
            case 3: same("most", fast.most(), slow.most()); break;
            case 4: same("fits", fast.fits(), slow.fits()); break;
            case 5: same("lies", fast.lies(p, n), slow.lies(p, n), p, n); break;
            case 6: same("on", fast.on(n, t), slow.on(n, t), n, t); break;
            case 7: same("cuts", fast.cuts(), slow.cuts()); break;
            case 8: same("crowded", fast.crowded(n), slow.crowded(n), n); break;
            case 9: same("fewest", fast.fewest(), slow.fewest()); break;
            case 10: same("delay", fast.delay(), slow.delay()); break;
            case 11: same("speed", fast.speed(what), slow.speed(what), what); break;
            case 12: same("level", fast.level(p, what), slow.level(p, what), p, what); break;
            case 13: same("days", fast.days(n, what), slow.days(n, what), n, what); break;
            default: same("days", fast.days(n, 10 + p), slow.days(n, 10 + p), n, 10 + p);
        }
    }

    private void askAll() {
        for (int what = 0; what <= 5; what++) {
            same("count", fast.count(what), slow.count(what), what);
        }
        for (int what = 0; what <= 2; what++) {
            same("crowded", fast.crowded(what), slow.crowded(what), what);
        }
        int stretches = slow.count(2);
        for (int s = 0; s <= stretches; s++) {
            same("moment", fast.moment(s), slow.moment(s), s);
        }
        for (int p = 0; p < slow.count(1); p++) {
            for (int s = 0; s < stretches; s++) {
                same("lies", fast.lies(p, s), slow.lies(p, s), p, s);
            }
            for (int what = 0; what <= 6; what++) {
                same("told", fast.told(p, what), slow.told(p, what), p, what);
                same("level", fast.level(p, what), slow.level(p, what), p, what);
            }
        }
        same("cuts", fast.cuts(), slow.cuts());
        same("speed", fast.speed(0), slow.speed(0), 0);
        same("speed", fast.speed(1), slow.speed(1), 1);
        levelMeetsSpeed();
    }

    /** On one loom the greatest level speed is the least speed at which all fit. */
    private void levelMeetsSpeed() {
        if (slow.count(0) != 1 || slow.count(1) == 0 || slow.level(0, 0) < 0) {
            return;
        }
        int above = 0;
        int below = 1;
        for (int p = 0; p < slow.count(1); p++) {
            if (fast.level(p, 0) * below > above * fast.level(p, 1)) {
                above = fast.level(p, 0);
                below = fast.level(p, 1);
            }
        }
        same("greatest level, above", fast.speed(0), above);
        same("greatest level, below", fast.speed(1), below);
    }
}
