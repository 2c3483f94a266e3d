import java.util.Arrays;
import java.util.Random;

/**
 * The terms at their word, in sheds so small that all LAYINGS, and all choices of PIECES and
 * STRETCHES, can be tried. SlowShed tells the same by a theorem on flows; here none is believed.
 */
public final class WordsTest {
    private static final int NOT = -2, NONE = -3, CAST = -13;
    private static final int MOST_PIECES = 5;
    private static final int LATEST = 6;
    private static final double NEARLY = 1e-9;

    private final LoomShed shed = new LoomShed();
    private final String title;
    private final int looms;
    private final int[][] pieces;

    private WordsTest(Random random, int seed) {
        looms = 1 + random.nextInt(3);
        pieces = new int[1 + random.nextInt(MOST_PIECES)][];
        StringBuilder text = new StringBuilder("shed " + seed + ": looms(" + looms + ")");
        shed.looms(looms);
        int latest = 2 + random.nextInt(LATEST - 1);
        int end = 1 + random.nextInt(latest);
        int longest = 1 + random.nextInt(pieces.length < MOST_PIECES ? 4 : 2);
        shed.end(end);
        for (int p = 0; p < pieces.length; p++) {
            pieces[p] = randomRow(random, latest, end, longest);
            addRow(p);
            text.append(' ').append(Arrays.toString(pieces[p]));
        }
        title = text.toString();
    }

    public static void main(String[] args) {
        int factor = args.length > 0 ? Integer.parseInt(args[0]) : 1;
        for (int seed = 0; seed < 6000 * factor; seed++) {
            new WordsTest(new Random(seed), seed).run();
        }
        Check.finish();
    }

    private static int[] randomRow(Random random, int latest, int end, int longest) {
        int kind = random.nextInt(5);
        int first = kind == 2 ? 0 : random.nextInt(latest);
        int last = kind == 2 ? end : first + 1 + random.nextInt(latest - first);
        int length = kind == 1 ? last - first : 1 + random.nextInt(longest);
        int ways = kind == 3 ? 2 + random.nextInt(2) : 1;
        int begin = kind == 4 ? random.nextInt(latest) : NONE;
        int stop = kind == 4 ? begin + 1 + random.nextInt(latest - begin) : NONE;
        return new int[] {kind, length, first, last, ways, begin, stop};
    }

    private void addRow(int p) {
        int[] row = pieces[p];
        shed.piece(row[0], row[1], row[2], row[3]);
        if (row[0] == 3) {
            shed.ways(p, row[4]);
        }
        if (row[0] == 4) {
            shed.bar(p, row[5], row[6]);
        }
        for (int what = 0; what < row.length; what++) {
            Check.due("told(" + p + ", " + what + ")", shed.told(p, what), row[what]);
        }
    }

    private void run() {
        Words words = new Words(pieces, looms, 0);
        words.tryAllLayings();
        due("most()", shed.most(), words.most);
        due("fits()", shed.fits(), words.most == words.allLengths ? 1 : 0);
        clothIs(words);
        crowdedIs(words);
        leastAre();
        speedIs(words);
        levelIs();
    }

    private void due(String call, int got, int want) {
        Check.due(title + ": " + call, got, want);
    }

    private void holds(String what, boolean isSo) {
        Check.holds(title + ": " + what, isSo);
    }

    // ---- THE CLOTH, its hours, its CUTS

    private void clothIs(Words words) {
        boolean isCloth = words.most == words.allLengths;
        for (int p = 0; p < pieces.length; p++) {
            for (int s = 0; s < words.stretches; s++) {
                due("lies(" + p + ", " + s + ")", shed.lies(p, s), isCloth ? words.best[p][s] : NOT);
            }
        }
        int[][] hours = words.hours();
        int cuts = -pieces.length;
        for (int loom = 0; loom < looms; loom++) {
            for (int t = 0; t < 60; t++) {
                due("on(" + loom + ", " + t + ")", shed.on(loom, t), isCloth ? hours[loom][t] : NOT);
                int before = t == 0 ? NONE : hours[loom][t - 1];
                cuts += hours[loom][t] != NONE && hours[loom][t] != before ? 1 : 0;
            }
        }
        due("cuts()", shed.cuts(), isCloth ? cuts : NOT);
    }

    // ---- CROWDED

    private void crowdedIs(Words words) {
        int choice = words.most == words.allLengths ? -1 : words.smallestTelling();
        due("crowded(0)", shed.crowded(0), choice < 0 ? NOT : choice & (1 << pieces.length) - 1);
        due("crowded(1)", shed.crowded(1), choice < 0 ? NOT : choice >> pieces.length);
        due("crowded(2)", shed.crowded(2), choice < 0 ? NOT : 0);
        if (choice >= 0) {
            holds("the crowded are within each other choice", words.isWithinEachOther(choice));
        }
    }

    // ---- FEWEST, DELAY

    private void leastAre() {
        int fewest = NONE;
        for (int n = 12; n >= 1; n--) {
            fewest = new Words(pieces, n, 0).canLayAll() ? n : fewest;
        }
        due("fewest()", shed.fewest(), fewest);
        int delay = 0;
        while (delay <= 200 && !new Words(pieces, looms, delay).canLayAll()) {
            delay++;
        }
        due("delay()", shed.delay(), delay > 200 ? NONE : delay);
    }

    // ---- SPEED

    private void speedIs(Words words) {
        int above = shed.speed(0);
        int below = shed.speed(1);
        for (int p = 0; p < pieces.length; p++) {
            if (Arrays.stream(words.takes[p]).sum() == 0) {
                due("speed(0)", above, NONE);
                due("speed(1)", below, NONE);
                return;
            }
        }
        holds("speed is above 0", above > 0 && below > 0);
        for (int d = 2; d <= Math.min(above, below); d++) {
            holds("speed without a common divisor", above % d != 0 || below % d != 0);
        }
        holds("all fit at the speed", new Words(pieces, looms, 0).times(below, above).canLayAll());
        Words less = new Words(pieces, looms, 0).times(1000 * below, 1000 * above - 1);
        holds("a little less does not do", less.hasChoiceBelowLengths());
    }

    // ---- LEVEL

    private void levelIs() {
        if (Arrays.stream(pieces).anyMatch(row -> row[0] == 3 || row[0] == 4)) {
            due("level(0, 0)", shed.level(0, 0), CAST);
            return;
        }
        double[] speeds = new double[pieces.length];
        for (int p = 0; p < pieces.length; p++) {
            speeds[p] = (double) shed.level(p, 0) / shed.level(p, 1);
        }
        holds("level speeds do all in their spans", doAllAt(speeds));
        double cost = costOf(speeds);
        double[] factors = {0.5, 0.9, 0.99, 1, 1.01, 1.1, 2};
        int all = (int) Math.pow(factors.length, speeds.length);
        for (int code = 0; code < all; code++) {
            double[] others = speeds.clone();
            int rest = code;
            for (int p = 0; p < others.length; p++) {
                others[p] *= factors[rest % factors.length];
                rest /= factors.length;
            }
            holds("no speeds cost less", !doAllAt(others) || costOf(others) >= cost - NEARLY);
        }
    }

    /** Whether in no span the pieces wholly in it need more time than it has. */
    private boolean doAllAt(double[] speeds) {
        for (int from = 0; from < LATEST; from++) {
            for (int to = from + 1; to <= LATEST; to++) {
                double time = 0;
                for (int p = 0; p < speeds.length; p++) {
                    boolean isIn = from <= pieces[p][2] && pieces[p][3] <= to;
                    time += isIn ? pieces[p][1] / speeds[p] : 0;
                }
                if (time > to - from + NEARLY) {
                    return false;
                }
            }
        }
        return true;
    }

    /** Speed times speed, for as long as each piece is on. */
    private double costOf(double[] speeds) {
        double cost = 0;
        for (int p = 0; p < speeds.length; p++) {
            cost += speeds[p] * speeds[p] * (pieces[p][1] / speeds[p]);
        }
        return cost;
    }
}
