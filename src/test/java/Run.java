import java.util.ArrayList;
import java.util.List;
import java.util.Set;
import java.util.regex.Matcher;
import java.util.regex.Pattern;

/**
 * A run of calls on a new object, told as text: "looms(6) = 1; looms(7) = BAD; 3 x undo()". A call
 * without an answer must be accepted. Behind each run it is seen, down to the last undo, that
 * nothing but its accepted changes has changed anything.
 */
final class Run {
    private static final Pattern CALL =
            Pattern.compile("(?:(\\d+) x )?(\\w+)\\(([^()]*)\\)(?: = (\\S+))?");
    private static final Set<String> CHANGES =
            Set.of("looms", "end", "piece", "ways", "bar", "drop", "undo");
    /** A new object answers 512 calls; the rest is for undo() and Check.viewOf(). */
    private static final int MOST_COMPARED = 250;

    private record Step(String call, String name, int[] args, Integer due) { }

    private final String title;
    private final List<Step> steps = new ArrayList<>();
    private final List<Step> accepted = new ArrayList<>();

    private Run(String title, String rows) {
        this.title = title;
        for (String row : rows.split(";")) {
            if (!row.isBlank()) {
                read(row.trim());
            }
        }
    }

    static void run(String title, String rows) {
        Run run = new Run(title, rows);
        run.play();
        run.onlyAcceptedCount();
    }

    private void read(String row) {
        Matcher m = CALL.matcher(row);
        if (!m.matches()) {
            throw new IllegalArgumentException("no call: " + row);
        }
        String[] words = m.group(3).isBlank() ? new String[0] : m.group(3).split(",");
        int[] args = new int[words.length];
        for (int i = 0; i < args.length; i++) {
            args[i] = number(words[i].trim());
        }
        Integer due = m.group(4) == null ? null : number(m.group(4));
        String call = m.group(2) + "(" + m.group(3) + ")";
        int times = m.group(1) == null ? 1 : Integer.parseInt(m.group(1));
        for (int i = 0; i < times; i++) {
            steps.add(new Step(call, m.group(2), args, due));
        }
    }

    private static int number(String word) {
        switch (word) {
            case "BAD": return -1;
            case "NOT": return -2;
            case "NONE": return -3;
            case "CAST": return -13;
            case "MIN": return Integer.MIN_VALUE;
            case "MAX": return Integer.MAX_VALUE;
            default: return Integer.parseInt(word);
        }
    }

    private void play() {
        LoomShed x = new LoomShed();
        for (int i = 0; i < steps.size(); i++) {
            Step step = steps.get(i);
            int got = answer(x, step.name, step.args);
            String call = title + ": call " + (i + 1) + ", " + step.call + ",";
            if (step.due != null) {
                Check.due(call, got, step.due);
            } else {
                Check.holds(call + " is accepted", got >= 0);
            }
            if (got >= 0 && CHANGES.contains(step.name)) {
                accepted.add(step);
            }
        }
    }

    private void onlyAcceptedCount() {
        if (steps.size() > MOST_COMPARED || accepted.size() == steps.size()) {
            return;
        }
        int left = replay(steps, 0).count(5);
        for (int undone = 0; undone <= left; undone++) {
            String all = Check.viewOf(replay(steps, undone));
            String changes = Check.viewOf(replay(accepted, undone));
            String state = " (" + undone + " undone)";
            Check.holds(title + ": what is refused or asked changes nothing" + state,
                    all.equals(changes));
        }
    }

    private static LoomShed replay(List<Step> steps, int undone) {
        LoomShed x = new LoomShed();
        for (Step step : steps) {
            answer(x, step.name, step.args);
        }
        for (int i = 0; i < undone; i++) {
            x.undo();
        }
        return x;
    }

    static int answer(LoomShed x, String name, int... a) {
        switch (name) {
            case "looms": return x.looms(a[0]);
            case "end": return x.end(a[0]);
            case "piece": return x.piece(a[0], a[1], a[2], a[3]);
            case "ways": return x.ways(a[0], a[1]);
            case "bar": return x.bar(a[0], a[1], a[2]);
            case "drop": return x.drop(a[0]);
            case "told": return x.told(a[0], a[1]);
            case "undo": return x.undo();
            case "count": return x.count(a[0]);
            case "moment": return x.moment(a[0]);
            case "most": return x.most();
            case "fits": return x.fits();
            case "lies": return x.lies(a[0], a[1]);
            case "on": return x.on(a[0], a[1]);
            case "cuts": return x.cuts();
            case "crowded": return x.crowded(a[0]);
            case "fewest": return x.fewest();
            case "delay": return x.delay();
            case "speed": return x.speed(a[0]);
            case "level": return x.level(a[0], a[1]);
            case "days": return x.days(a[0], a[1]);
            default: throw new IllegalArgumentException("no call: " + name);
        }
    }
}
