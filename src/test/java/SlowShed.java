import java.util.ArrayList;
import java.util.List;
import java.util.TreeSet;

/**
 * The document's face once more, as slow and plain as its words, to hold the program against.
 * It knows no flows: whether pieces fit is told by all choices of pieces.
 */
final class SlowShed {
    private static final int BAD = -1, NOT = -2, NONE = -3, CAST = -13;

    private int looms = 1;
    private int end = 24;
    /** Each row: kind, length, first, last, ways, begin, stop. */
    private List<int[]> pieces = new ArrayList<>();
    private final List<Object[]> past = new ArrayList<>();

    private int[][] cloth;
    private int[] clothMoments;

    int looms(int n) {
        if (n < 1 || n > 6) {
            return BAD;
        }
        keep();
        int before = looms;
        looms = n;
        return before;
    }

    int end(int t) {
        if (t < 1 || t > 60) {
            return BAD;
        }
        keep();
        int before = end;
        end = t;
        return before;
    }

    int piece(int kind, int length, int first, int last) {
        boolean isSpan = 0 <= first && first <= 60 && 0 <= last && last <= 60 && first < last;
        boolean isLength = 1 <= length && length <= 60;
        if (kind < 0 || kind > 4 || (kind != 1 && !isLength) || (kind != 2 && !isSpan)) {
            return BAD;
        }
        if (pieces.size() == 12) {
            return NOT;
        }
        keep();
        int[] row = {kind, length, first, last, 1, NONE, NONE};
        if (kind == 1) {
            row[1] = last - first;
        } else if (kind == 2) {
            row[2] = 0;
            row[3] = -99;
        } else if (kind == 3) {
            row[4] = 2;
        } else if (kind == 4) {
            row[5] = 0;
            row[6] = 1;
        }
        pieces.add(row);
        return pieces.size() - 1;
    }

    int ways(int piece, int n) {
        if (!has(piece) || n < 2 || n > 6) {
            return BAD;
        }
        if (pieces.get(piece)[0] != 3) {
            return CAST;
        }
        keep();
        int before = pieces.get(piece)[4];
        pieces.get(piece)[4] = n;
        return before;
    }

    int bar(int piece, int begin, int stop) {
        if (!has(piece) || begin < 0 || stop > 60 || begin >= stop) {
            return BAD;
        }
        if (pieces.get(piece)[0] != 4) {
            return CAST;
        }
        keep();
        pieces.get(piece)[5] = begin;
        pieces.get(piece)[6] = stop;
        return 1;
    }

    int drop(int piece) {
        if (!has(piece)) {
            return BAD;
        }
        keep();
        pieces.remove(piece);
        return pieces.size();
    }

    int told(int piece, int what) {
        if (!has(piece) || what < 0 || what > 6) {
            return BAD;
        }
        return what == 3 ? last(piece) : pieces.get(piece)[what];
    }

    @SuppressWarnings("unchecked")
    int undo() {
        if (past.isEmpty()) {
            return NOT;
        }
        Object[] before = past.remove(past.size() - 1);
        looms = (Integer) before[0];
        end = (Integer) before[1];
        pieces = (List<int[]>) before[2];
        cloth = null;
        return past.size();
    }

    int count(int what) {
        switch (what) {
            case 0: return looms;
            case 1: return pieces.size();
            case 2: return Math.max(0, moments().length - 1);
            case 3: return allLengths();
            case 4: return end;
            case 5: return past.size();
            default: return BAD;
        }
    }

    int moment(int k) {
        int[] moments = moments();
        return k < 0 || k >= moments.length ? BAD : moments[k];
    }

    int most() {
        int least = Integer.MAX_VALUE;
        for (int told : toldByChoices()) {
            least = Math.min(least, told);
        }
        return least;
    }

    int fits() {
        return most() == allLengths() ? 1 : 0;
    }

    int lies(int piece, int stretch) {
        if (!has(piece) || stretch < 0 || stretch >= moments().length - 1) {
            return BAD;
        }
        return fits() == 0 ? NOT : cloth()[piece][stretch];
    }

    int on(int loom, int t) {
        if (loom < 0 || loom >= looms || t < 0 || t > 59) {
            return BAD;
        }
        return fits() == 0 ? NOT : hours()[loom][t];
    }

    int cuts() {
        if (fits() == 0) {
            return NOT;
        }
        int[][] hours = hours();
        int cuts = 0;
        for (int p = 0; p < pieces.size(); p++) {
            int begins = 0;
            for (int loom = 0; loom < looms; loom++) {
                for (int t = 0; t < 60; t++) {
                    if (hours[loom][t] == p && (t == 0 || hours[loom][t - 1] != p)) {
                        begins++;
                    }
                }
            }
            cuts += begins - 1;
        }
        return cuts;
    }

    int crowded(int what) {
        if (what < 0 || what > 2) {
            return BAD;
        }
        int[] told = toldByChoices();
        int most = most();
        if (most == allLengths()) {
            return NOT;
        }
        int chosen = -1;
        for (int choice = 0; choice < told.length; choice++) {
            boolean isFewer = chosen < 0 || Integer.bitCount(choice) < Integer.bitCount(chosen);
            if (told[choice] == most && isFewer) {
                chosen = choice;
            }
        }
        return what == 0 ? chosen : crowdedStretches(chosen, what == 1 ? 0 : 31);
    }

    private int crowdedStretches(int chosen, int from) {
        int[] moments = moments();
        int bits = 0;
        for (int s = from; s < moments.length - 1 && s < from + 31; s++) {
            int wanted = 0;
            for (int p = 0; p < pieces.size(); p++) {
                wanted += (chosen >> p & 1) * takes(p, moments[s], moments[s + 1], looms, 0);
            }
            if (looms * (moments[s + 1] - moments[s]) < wanted) {
                bits |= 1 << (s - from);
            }
        }
        return bits;
    }

    int fewest() {
        for (int n = 1; n <= 12; n++) {
            if (fitsWith(n, 0)) {
                return n;
            }
        }
        return NONE;
    }

    int delay() {
        for (int d = 0; d <= 200; d++) {
            if (fitsWith(looms, d)) {
                return d;
            }
        }
        return NONE;
    }

    int speed(int what) {
        if (what < 0 || what > 1) {
            return BAD;
        }
        if (pieces.isEmpty()) {
            return NOT;
        }
        int[] taken = takenByChoices(looms, 0);
        int above = 0;
        int below = 1;
        for (int choice = 1; choice < taken.length; choice++) {
            if (taken[choice] == 0) {
                return NONE;
            }
            int lengths = lengthsOf(choice);
            if (lengths * below > above * taken[choice]) {
                above = lengths;
                below = taken[choice];
            }
        }
        return lowest(above, below, what);
    }

    int level(int piece, int what) {
        if (!has(piece) || what < 0 || what > 1) {
            return BAD;
        }
        for (int[] row : pieces) {
            if (row[0] == 3 || row[0] == 4) {
                return CAST;
            }
        }
        List<int[]> open = new ArrayList<>();
        for (int p = 0; p < pieces.size(); p++) {
            open.add(new int[] {p, pieces.get(p)[1], pieces.get(p)[2], last(p)});
        }
        return levelOf(piece, open, what);
    }

    /** Each row of what is open: the piece, its length, its span in the time that is left. */
    private int levelOf(int piece, List<int[]> open, int what) {
        int bestSum = -1;
        int bestFrom = 0;
        int bestTo = 1;
        for (int from = 0; from < 60; from++) {
            for (int to = from + 1; to <= 60; to++) {
                int sum = 0;
                for (int[] row : open) {
                    sum += row[2] >= from && row[3] <= to ? row[1] : 0;
                }
                if (sum * (bestTo - bestFrom) > bestSum * (to - from)) {
                    bestSum = sum;
                    bestFrom = from;
                    bestTo = to;
                }
            }
        }
        List<int[]> rest = new ArrayList<>();
        for (int[] row : open) {
            if (row[2] >= bestFrom && row[3] <= bestTo) {
                if (row[0] == piece) {
                    return lowest(bestSum, bestTo - bestFrom, what);
                }
            } else {
                int gone = bestTo - bestFrom;
                int first = row[2] <= bestFrom ? row[2] : Math.max(bestFrom, row[2] - gone);
                int last = row[3] <= bestFrom ? row[3] : Math.max(bestFrom, row[3] - gone);
                rest.add(new int[] {row[0], row[1], first, last});
            }
        }
        return levelOf(piece, rest, what);
    }

    int days(int n, int what) {
        boolean asksDay = what >= 10 && has(what - 10);
        if (n < 1 || n > 4 || (what != 0 && what != 1 && !asksDay)) {
            return BAD;
        }
        int number = pieces.size();
        if (number == 0 || number > 8) {
            return NOT;
        }
        int best = Integer.MAX_VALUE;
        int[] bestDays = null;
        int all = (int) Math.round(Math.pow(n, number));
        for (int code = 0; code < all; code++) {
            int[] days = new int[number];
            int rest = code;
            for (int p = number - 1; p >= 0; p--) {
                days[p] = rest % n;
                rest /= n;
            }
            int latest = latestEnd(n, days);
            if (latest < best) {
                best = latest;
                bestDays = days;
            }
        }
        return asksDay ? bestDays[what - 10] : lowest(best, looms, what);
    }

    private int latestEnd(int n, int[] days) {
        int latest = 0;
        for (int day = 0; day < n; day++) {
            int sum = 0;
            for (int p = 0; p < days.length; p++) {
                if (days[p] == day) {
                    sum += pieces.get(p)[1];
                    latest = Math.max(latest, pieces.get(p)[1] * looms);
                }
            }
            latest = Math.max(latest, sum);
        }
        return latest;
    }

    // ---- parts

    private void keep() {
        List<int[]> copy = new ArrayList<>();
        for (int[] row : pieces) {
            copy.add(row.clone());
        }
        past.add(new Object[] {looms, end, copy});
        if (past.size() > 20) {
            past.remove(0);
        }
        cloth = null;
    }

    private boolean has(int piece) {
        return piece >= 0 && piece < pieces.size();
    }

    private int last(int piece) {
        return pieces.get(piece)[0] == 2 ? end : pieces.get(piece)[3];
    }

    private int allLengths() {
        return lengthsOf((1 << pieces.size()) - 1);
    }

    private int lengthsOf(int choice) {
        int sum = 0;
        for (int p = 0; p < pieces.size(); p++) {
            sum += (choice >> p & 1) * pieces.get(p)[1];
        }
        return sum;
    }

    private int[] moments() {
        TreeSet<Integer> all = new TreeSet<>();
        for (int p = 0; p < pieces.size(); p++) {
            all.add(pieces.get(p)[2]);
            all.add(last(p));
            if (pieces.get(p)[0] == 4) {
                all.add(pieces.get(p)[5]);
                all.add(pieces.get(p)[6]);
            }
        }
        int[] row = new int[all.size()];
        int i = 0;
        for (int t : all) {
            row[i++] = t;
        }
        return row;
    }

    private int takes(int p, int from, int to, int looms, int delay) {
        int[] row = pieces.get(p);
        boolean isIn = row[2] <= from && to <= last(p) + delay;
        boolean isBarred = row[0] == 4 && row[5] < to && from < row[6];
        return isIn && !isBarred ? Math.min(row[4], looms) * (to - from) : 0;
    }

    /** For each choice of pieces the most that stretches take of it, counted hour by hour. */
    private int[] takenByChoices(int looms, int delay) {
        int[] taken = new int[1 << pieces.size()];
        int[] wanted = new int[taken.length];
        for (int t = 0; t < 60 + delay; t++) {
            addTaken(taken, wanted, column(t, t + 1, looms, delay), looms);
        }
        return taken;
    }

    private int[] column(int from, int to, int looms, int delay) {
        int[] column = new int[pieces.size()];
        for (int p = 0; p < column.length; p++) {
            column[p] = takes(p, from, to, looms, delay);
        }
        return column;
    }

    private static void addTaken(int[] taken, int[] wanted, int[] column, int atMost) {
        for (int choice = 1; choice < taken.length; choice++) {
            int p = Integer.numberOfTrailingZeros(choice);
            wanted[choice] = wanted[choice & (choice - 1)] + column[p];
            taken[choice] += Math.min(wanted[choice], atMost);
        }
    }

    private int[] toldByChoices() {
        int[] told = takenByChoices(looms, 0);
        for (int choice = 0; choice < told.length; choice++) {
            told[choice] += lengthsOf(~choice);
        }
        return told;
    }

    private boolean fitsWith(int looms, int delay) {
        int[] taken = takenByChoices(looms, delay);
        for (int choice = 0; choice < taken.length; choice++) {
            if (lengthsOf(choice) > taken[choice]) {
                return false;
            }
        }
        return true;
    }

    /** Amount by amount the greatest with which the rest still fits. */
    private int[][] cloth() {
        if (cloth != null) {
            return cloth;
        }
        clothMoments = moments();
        int stretches = Math.max(0, clothMoments.length - 1);
        int[] left = new int[pieces.size()];
        int[] room = new int[stretches];
        int[][] open = new int[stretches][];
        int[][] given = new int[pieces.size()][stretches];
        for (int s = 0; s < stretches; s++) {
            room[s] = looms * (clothMoments[s + 1] - clothMoments[s]);
            open[s] = column(clothMoments[s], clothMoments[s + 1], looms, 0);
        }
        for (int p = 0; p < left.length; p++) {
            left[p] = pieces.get(p)[1];
        }
        for (int p = 0; p < left.length; p++) {
            for (int s = 0; s < stretches; s++) {
                int amount = Math.min(open[s][p], Math.min(left[p], room[s]));
                open[s][p] = 0;
                left[p] -= amount;
                room[s] -= amount;
                while (!restFits(left, room, open)) {
                    amount--;
                    left[p]++;
                    room[s]++;
                }
                given[p][s] = amount;
            }
        }
        cloth = given;
        return cloth;
    }

    private static boolean restFits(int[] left, int[] room, int[][] open) {
        int[] taken = new int[1 << left.length];
        int[] wanted = new int[taken.length];
        for (int s = 0; s < room.length; s++) {
            addTaken(taken, wanted, open[s], room[s]);
        }
        for (int choice = 1; choice < taken.length; choice++) {
            int lengths = 0;
            for (int p = 0; p < left.length; p++) {
                lengths += (choice >> p & 1) * left[p];
            }
            if (lengths > taken[choice]) {
                return false;
            }
        }
        return true;
    }

    private int[][] hours() {
        int[][] hours = new int[looms][60];
        for (int[] row : hours) {
            java.util.Arrays.fill(row, NONE);
        }
        int[][] given = cloth();
        for (int s = 0; s < clothMoments.length - 1; s++) {
            int loom = 0;
            int t = clothMoments[s];
            for (int p = 0; p < given.length; p++) {
                for (int i = 0; i < given[p][s]; i++) {
                    hours[loom][t] = p;
                    t++;
                    if (t == clothMoments[s + 1]) {
                        t = clothMoments[s];
                        loom++;
                    }
                }
            }
        }
        return hours;
    }

    private static int lowest(int above, int below, int what) {
        int divisor = 1;
        for (int d = 1; d <= below; d++) {
            divisor = above % d == 0 && below % d == 0 ? d : divisor;
        }
        return (what == 0 ? above : below) / divisor;
    }
}
