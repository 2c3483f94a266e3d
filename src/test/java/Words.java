import java.util.Arrays;
import java.util.TreeSet;

/**
 * What may lie where, with so many looms and so much delay, and what can be laid, by trying. A row
 * of a piece tells its kind, length, first, last, ways, begin, stop.
 */
final class Words {
    private static final int NONE = -3;

    final int[] moments;
    final int stretches;
    final int looms;
    final int[] lengths;
    final int[][] takes;
    final int[] stretchTakes;
    int allLengths;

    int most = -1;
    int[][] best;
    private final int[][] given;

    Words(int[][] pieces, int looms, int delay) {
        this.looms = looms;
        moments = momentsOf(pieces, delay);
        stretches = moments.length - 1;
        lengths = new int[pieces.length];
        takes = new int[pieces.length][stretches];
        stretchTakes = new int[stretches];
        given = new int[pieces.length][stretches];
        for (int p = 0; p < pieces.length; p++) {
            int[] row = pieces[p];
            lengths[p] = row[1];
            allLengths += row[1];
            for (int s = 0; s < stretches; s++) {
                int time = moments[s + 1] - moments[s];
                stretchTakes[s] = looms * time;
                takes[p][s] = mayLie(row, s, delay) ? Math.min(row[4], looms) * time : 0;
            }
        }
    }

    private boolean mayLie(int[] row, int s, int delay) {
        for (int t = moments[s]; t < moments[s + 1]; t++) {
            boolean isInSpan = row[2] <= t && t < row[3] + delay;
            boolean isBarred = row[0] == 4 && row[5] <= t && t < row[6];
            if (!isInSpan || isBarred) {
                return false;
            }
        }
        return true;
    }

    private static int[] momentsOf(int[][] pieces, int delay) {
        TreeSet<Integer> all = new TreeSet<>();
        for (int[] row : pieces) {
            all.add(row[2]);
            all.add(row[3] + delay);
            if (row[0] == 4) {
                all.add(row[5]);
                all.add(row[6]);
            }
        }
        return all.stream().mapToInt(t -> t).toArray();
    }

    /** Changes this: lengths by one number, what is taken by another. */
    Words times(int timesLength, int timesTaken) {
        allLengths *= timesLength;
        for (int p = 0; p < lengths.length; p++) {
            lengths[p] *= timesLength;
            for (int s = 0; s < stretches; s++) {
                takes[p][s] *= timesTaken;
            }
        }
        for (int s = 0; s < stretches; s++) {
            stretchTakes[s] *= timesTaken;
        }
        return this;
    }

    void tryAllLayings() {
        tryFrom(0, 0);
    }

    /** Greater amounts first: so the first laying of the most is the cloth. */
    private void tryFrom(int place, int sum) {
        if (place == lengths.length * stretches) {
            if (sum > most) {
                most = sum;
                best = new int[lengths.length][];
                for (int p = 0; p < lengths.length; p++) {
                    best[p] = given[p].clone();
                }
            }
            return;
        }
        int p = place / stretches;
        int s = place % stretches;
        int room = stretchTakes[s];
        int left = lengths[p];
        for (int q = 0; q < p; q++) {
            room -= given[q][s];
        }
        for (int r = 0; r < s; r++) {
            left -= given[p][r];
        }
        for (int amount = Math.min(takes[p][s], Math.min(room, left)); amount >= 0; amount--) {
            given[p][s] = amount;
            tryFrom(place + 1, sum + amount);
        }
        given[p][s] = 0;
    }

    int[][] hours() {
        int[][] hours = new int[looms][60];
        for (int[] row : hours) {
            Arrays.fill(row, NONE);
        }
        for (int s = 0; s < stretches; s++) {
            int place = 0;
            int time = moments[s + 1] - moments[s];
            for (int p = 0; p < lengths.length; p++) {
                for (int i = 0; i < best[p][s]; i++, place++) {
                    hours[place / time][moments[s] + place % time] = p;
                }
            }
        }
        return hours;
    }

    /** Lengths not chosen, stretches chosen, and what chosen ones take in those not chosen. */
    private int toldBy(int choice) {
        int told = 0;
        for (int s = 0; s < stretches; s++) {
            told += (choice >> lengths.length + s & 1) * stretchTakes[s];
        }
        for (int p = 0; p < lengths.length; p++) {
            boolean isChosen = (choice >> p & 1) != 0;
            told += isChosen ? 0 : lengths[p];
            for (int s = 0; s < stretches; s++) {
                boolean isStretchChosen = (choice >> lengths.length + s & 1) != 0;
                told += isChosen && !isStretchChosen ? takes[p][s] : 0;
            }
        }
        return told;
    }

    private int choices() {
        return 1 << lengths.length + stretches;
    }

    int smallestTelling() {
        int smallest = -1;
        for (int choice = 0; choice < choices(); choice++) {
            boolean isFewer = smallest < 0 || Integer.bitCount(choice) < Integer.bitCount(smallest);
            smallest = isFewer && toldBy(choice) == most ? choice : smallest;
        }
        return smallest;
    }

    boolean isWithinEachOther(int smallest) {
        for (int choice = 0; choice < choices(); choice++) {
            if (toldBy(choice) == most && (choice & smallest) != smallest) {
                return false;
            }
        }
        return true;
    }

    /** If so, no laying gives all lengths, whatever its amounts. */
    boolean hasChoiceBelowLengths() {
        for (int choice = 0; choice < choices(); choice++) {
            if (toldBy(choice) < allLengths) {
                return true;
            }
        }
        return false;
    }

    /** A laying of all lengths is made; if none is found, a choice shows that there is none. */
    boolean canLayAll() {
        int[] room = stretchTakes.clone();
        for (int p = 0; p < lengths.length; p++) {
            for (int i = 0; i < lengths[p]; i++) {
                if (!layOne(p, room, new boolean[lengths.length])) {
                    Check.holds("a choice shows what does not fit", hasChoiceBelowLengths());
                    return false;
                }
            }
        }
        return true;
    }

    private boolean layOne(int p, int[] room, boolean[] isSeen) {
        isSeen[p] = true;
        for (int s = 0; s < stretches; s++) {
            if (given[p][s] < takes[p][s] && (room[s] > 0 || makeRoom(s, room, isSeen))) {
                given[p][s]++;
                room[s]--;
                return true;
            }
        }
        return false;
    }

    private boolean makeRoom(int s, int[] room, boolean[] isSeen) {
        for (int q = 0; q < lengths.length; q++) {
            if (!isSeen[q] && given[q][s] > 0 && layOne(q, room, isSeen)) {
                given[q][s]--;
                room[s]++;
                return true;
            }
        }
        return false;
    }
}
