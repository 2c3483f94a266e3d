import java.util.List;
import java.util.Map;

/**
 * Each call with all choices of numbers about the document's bounds, in sheds from empty to full,
 * held against the slow shed: it answers as due, never throws, and what it changes can be undone.
 */
public final class EdgeNumbersTest {
    private static final int LEAST = Integer.MIN_VALUE;
    private static final int GREATEST = Integer.MAX_VALUE;
    private static final int[] NUMBERS = {
        LEAST, LEAST + 9, LEAST + 10, -13, -3, -2, -1, 0, 1, 2, 3, 4, 5, 6, 7, 8, 9, 10, 11, 12, 13,
        17, 18, 19, 21, 22, 23, 24, 25, 30, 31, 46, 47, 48, 58, 59, 60, 61, 62, GREATEST};
    /** For calls with three and four numbers, of which there would be too many. */
    private static final int[] FEW = {LEAST, -1, 0, 1, 2, 4, 5, 11, 12, 59, 60, 61, GREATEST};
    private static final int MOST_CALLS = 400;

    private static final List<String> CHANGES =
            List.of("looms", "end", "piece", "ways", "bar", "drop");
    private static final Map<String, Integer> TAKES = Map.ofEntries(
            Map.entry("looms", 1), Map.entry("end", 1), Map.entry("piece", 4),
            Map.entry("ways", 2), Map.entry("bar", 3), Map.entry("drop", 1),
            Map.entry("told", 2), Map.entry("count", 1), Map.entry("moment", 1),
            Map.entry("most", 0), Map.entry("fits", 0), Map.entry("lies", 2), Map.entry("on", 2),
            Map.entry("cuts", 0), Map.entry("crowded", 1), Map.entry("fewest", 0),
            Map.entry("delay", 0), Map.entry("speed", 1), Map.entry("level", 2),
            Map.entry("days", 2));

    private final String shed;
    private final int[][] rows;
    private LoomShed fast;
    private SlowShed slow;
    private int calls;

    /** Each row: looms and end, or a piece, or ways, or a bar; told apart by its length. */
    private EdgeNumbersTest(String shed, int[]... rows) {
        this.shed = shed;
        this.rows = rows;
        begin();
    }

    public static void main(String[] args) {
        new EdgeNumbersTest("empty").askAll();
        new EdgeNumbersTest("empty, six looms", new int[] {6, 60}).askAll();
        new EdgeNumbersTest("one of one hour", new int[] {0, 1, 0, 1}).askAll();
        new EdgeNumbersTest("one too long", new int[] {0, 60, 59, 60}).askAll();
        new EdgeNumbersTest("one that may lie nowhere", new int[] {4, 1, 0, 1}).askAll();
        new EdgeNumbersTest("all kinds, that fit", new int[] {3, 30}, new int[] {0, 4, 0, 9},
                new int[] {1, 0, 3, 8}, new int[] {2, 30, 0, 0}, new int[] {3, 7, 2, 11},
                new int[] {4, 5, 1, 12}, new int[] {3, 5, 0, 0, 0}, new int[] {4, 6, 7}).askAll();
        new EdgeNumbersTest("all kinds, too crowded", new int[] {1, 1}, new int[] {0, 4, 0, 9},
                new int[] {1, 0, 3, 8}, new int[] {2, 30, 0, 0}, new int[] {3, 9, 2, 11},
                new int[] {4, 5, 1, 12}).askAll();
        new EdgeNumbersTest("eight plain ones", like(8, 0, 7, 0, 60)).askAll();
        new EdgeNumbersTest("nine plain ones", like(9, 0, 6, 5, 59)).askAll();
        new EdgeNumbersTest("eleven", like(11, 3, 1, 0, 60)).askAll();
        new EdgeNumbersTest("full, fits", like(12, 0, 5, 0, 60)).askAll();
        new EdgeNumbersTest("full, too crowded", like(12, 4, 60, 0, 60)).askAll();
        new EdgeNumbersTest("full, with the most moments", nested()).askAll();
        Check.finish();
    }

    private static int[][] like(int pieces, int... row) {
        int[][] rows = new int[pieces][];
        for (int p = 0; p < pieces; p++) {
            rows[p] = row;
        }
        return rows;
    }

    private static int[][] nested() {
        int[][] rows = new int[24][];
        for (int p = 0; p < 12; p++) {
            rows[2 * p] = new int[] {4, 1, p, 60 - p};
            rows[2 * p + 1] = new int[] {p, 12 + p, 48 - p};
        }
        return rows;
    }

    private void begin() {
        fast = new LoomShed();
        slow = new SlowShed();
        for (int[] row : rows) {
            switch (row.length) {
                case 2:
                    both("looms", row[0]);
                    both("end", row[1]);
                    break;
                case 3:
                    both("bar", row);
                    break;
                case 4:
                    both("piece", row);
                    break;
                default:
                    both("ways", row[0], row[1]);
            }
        }
        calls = 0;
    }

    private void askAll() {
        if (shed.contains("fit") || shed.contains("crowded")) {
            Check.due(shed + ": fits()", fast.fits(), shed.contains("fit") ? 1 : 0);
        }
        for (Map.Entry<String, Integer> call : TAKES.entrySet()) {
            int[] numbers = call.getValue() > 2 ? FEW : NUMBERS;
            ask(call.getKey(), numbers, new int[call.getValue()], 0);
        }
    }

    private void ask(String name, int[] numbers, int[] args, int at) {
        if (at == args.length) {
            askOnce(name, args);
            return;
        }
        for (int number : numbers) {
            args[at] = number;
            ask(name, numbers, args, at + 1);
        }
    }

    private void askOnce(String name, int[] args) {
        if (calls >= MOST_CALLS) {
            begin();
        }
        int answer = both(name, args);
        if (answer >= 0 && CHANGES.contains(name)) {
            both("count", 3);
            both("undo");
        }
        both("count", 5);
    }

    private int both(String name, int... args) {
        calls++;
        int want = answerOfSlow(name, args);
        String call = shed + ": " + name + java.util.Arrays.toString(args);
        Check.due(call, Run.answer(fast, name, args), want);
        return want;
    }

    private int answerOfSlow(String name, int... a) {
        switch (name) {
            case "looms": return slow.looms(a[0]);
            case "end": return slow.end(a[0]);
            case "piece": return slow.piece(a[0], a[1], a[2], a[3]);
            case "ways": return slow.ways(a[0], a[1]);
            case "bar": return slow.bar(a[0], a[1], a[2]);
            case "drop": return slow.drop(a[0]);
            case "told": return slow.told(a[0], a[1]);
            case "undo": return slow.undo();
            case "count": return slow.count(a[0]);
            case "moment": return slow.moment(a[0]);
            case "most": return slow.most();
            case "fits": return slow.fits();
            case "lies": return slow.lies(a[0], a[1]);
            case "on": return slow.on(a[0], a[1]);
            case "cuts": return slow.cuts();
            case "crowded": return slow.crowded(a[0]);
            case "fewest": return slow.fewest();
            case "delay": return slow.delay();
            case "speed": return slow.speed(a[0]);
            case "level": return slow.level(a[0], a[1]);
            case "days": return slow.days(a[0], a[1]);
            default: throw new IllegalArgumentException("no call: " + name);
        }
    }
}
