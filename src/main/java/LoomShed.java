import java.util.Arrays;

/**
 * A shed of like looms and pieces of work that may be cut and go on later elsewhere.
 *
 * <p>Whether the pieces fit their spans is a question of a greatest flow from pieces to stretches
 * of time; nearly all answers of this class are read off such a flow ({@link Laying}).
 */
public final class LoomShed {
    public static final int BAD = -1, NOT = -2, NONE = -3, CAST = -13;

    private static final int PIECE = 0, TIGHT = 1, FREE = 2, SPLIT = 3, BARRED = 4;

    private static final int MOST_PIECES = 12;
    private static final int MOST_LOOMS = 6;
    private static final int LEAST_WAYS = 2;
    private static final int MOST_WAYS = 6;
    private static final int LONGEST = 60;
    private static final int LATEST = 60;
    private static final int FIRST_END = 24;
    private static final int MOST_UNDONE = 20;

    /** A piece has four moments at most. */
    private static final int MOST_MOMENTS = 4 * MOST_PIECES;
    private static final int MOST_STRETCHES = MOST_MOMENTS - 1;
    private static final int FIRST_BITS = 31;

    private static final int MOST_TRIED_LOOMS = 12;
    private static final int MOST_DELAY = 200;
    private static final int MOST_DAYS = 4;
    private static final int MOST_SHARED = 8;
    private static final int DAY_OF = 10;

    /** Stands far above the rounds that any loop needs, and above all amounts. */
    private static final int MANY = 1_000_000;

    private final Shed shed = new Shed();
    private final History history = new History();

    private final Frame frame = new Frame();
    private final Laying laying = new Laying();
    private boolean isFramed;
    private boolean isLaid;
    private boolean isWoven;

    /** What would be is laid apart, so that the shed's own laying stays known. */
    private final Frame triedFrame = new Frame();
    private final Laying triedLaying = new Laying();

    /** The speed as a fraction; 0 below while it is not known. */
    private int speedAbove;
    private int speedBelow;

    private final Levelling levelling = new Levelling();
    private final Sharing sharing = new Sharing();

    public LoomShed() {
    }

    // ---- 1 the shed

    public int looms(int n) {
        if (n < 1 || n > MOST_LOOMS) {
            return BAD;
        }
        int before = shed.loomCount;
        startChange();
        shed.loomCount = n;
        return before;
    }

    public int end(int t) {
        if (t < 1 || t > LATEST) {
            return BAD;
        }
        int before = shed.endMoment;
        startChange();
        shed.endMoment = t;
        return before;
    }

    public int piece(int kind, int length, int first, int last) {
        if (!isPieceAsTold(kind, length, first, last)) {
            return BAD;
        }
        if (shed.pieceCount >= MOST_PIECES) {
            return NOT;
        }
        startChange();
        return shed.add(newPiece(kind, length, first, last));
    }

    public int ways(int piece, int n) {
        if (!shed.has(piece) || n < LEAST_WAYS || n > MOST_WAYS) {
            return BAD;
        }
        if (shed.pieceAt(piece) instanceof Split split) {
            startChange();
            shed.put(piece, new Split(split.length, split.first, split.last, n));
            return split.splitWays;
        }
        return CAST;
    }

    public int bar(int piece, int begin, int stop) {
        if (!shed.has(piece) || !isSpan(begin, stop)) {
            return BAD;
        }
        if (shed.pieceAt(piece) instanceof Barred barred) {
            startChange();
            shed.put(piece, new Barred(barred.length, barred.first, barred.last, begin, stop));
            return 1;
        }
        return CAST;
    }

    public int drop(int piece) {
        if (!shed.has(piece)) {
            return BAD;
        }
        startChange();
        shed.remove(piece);
        return shed.pieceCount;
    }

    public int told(int piece, int what) {
        Piece asked = shed.pieceAt(piece);
        if (asked == null) {
            return BAD;
        }
        switch (what) {
            case 0:
                return asked.kindNumber();
            case 1:
                return asked.length;
            case 2:
                return asked.first;
            case 3:
                return asked.lastIn(shed.endMoment);
            case 4:
                return asked.waysTold();
            case 5:
                return asked.barBegin();
            case 6:
                return asked.barStop();
            default:
                return BAD;
        }
    }

    public int undo() {
        if (history.keptCount == 0) {
            return NOT;
        }
        history.restore(shed);
        forgetAnswers();
        return history.keptCount;
    }

    public int count(int what) {
        switch (what) {
            case 0:
                return shed.loomCount;
            case 1:
                return shed.pieceCount;
            case 2:
                return knownFrame().stretchCount;
            case 3:
                return shed.allLengths();
            case 4:
                return shed.endMoment;
            case 5:
                return history.keptCount;
            default:
                return BAD;
        }
    }

    public int moment(int k) {
        Frame known = knownFrame();
        if (k < 0 || k >= known.momentCount) {
            return BAD;
        }
        return known.moments[k];
    }

    // ---- 2 fitting

    public int most() {
        return shed.allLengths() - knownLaying().missing;
    }

    public int fits() {
        return doAllFit() ? 1 : 0;
    }

    public int lies(int piece, int stretch) {
        if (!shed.has(piece) || stretch < 0 || stretch >= knownFrame().stretchCount) {
            return BAD;
        }
        if (!doAllFit()) {
            return NOT;
        }
        return knownCloth().laid[piece][stretch];
    }

    public int on(int loom, int t) {
        if (loom < 0 || loom >= shed.loomCount || t < 0 || t >= LATEST) {
            return BAD;
        }
        if (!doAllFit()) {
            return NOT;
        }
        return pieceInHour(knownCloth(), loom, t);
    }

    public int cuts() {
        if (!doAllFit()) {
            return NOT;
        }
        Laying cloth = knownCloth();
        int begins = 0;
        for (int loom = 0; loom < shed.loomCount; loom++) {
            begins += beginsOn(cloth, loom);
        }
        // where all fit, each piece begins at least once
        return begins - shed.pieceCount;
    }

    public int crowded(int what) {
        if (what < 0 || what > 2) {
            return BAD;
        }
        if (doAllFit()) {
            return NOT;
        }
        if (what == 0) {
            return laying.reachedPieces();
        }
        return what == 1 ? laying.reachedStretches(0) : laying.reachedStretches(FIRST_BITS);
    }

    // ---- 3 what least would do

    public int fewest() {
        return leastThatDoes(false, 1, MOST_TRIED_LOOMS);
    }

    public int delay() {
        return leastThatDoes(true, 0, MOST_DELAY);
    }

    public int speed(int what) {
        if (what < 0 || what > 1) {
            return BAD;
        }
        if (shed.pieceCount == 0) {
            return NOT;
        }
        if (knownFrame().hasPieceNowhere()) {
            return NONE;
        }
        findSpeed();
        return what == 0 ? speedAbove : speedBelow;
    }

    public int level(int piece, int what) {
        if (!shed.has(piece) || what < 0 || what > 1) {
            return BAD;
        }
        if (shed.hasSplitOrBarred()) {
            return CAST;
        }
        levelling.find(shed);
        return what == 0 ? levelling.above[piece] : levelling.below[piece];
    }

    public int days(int n, int what) {
        boolean asksDay = what >= DAY_OF && shed.has(what - DAY_OF);
        if (n < 1 || n > MOST_DAYS || (what != 0 && what != 1 && !asksDay)) {
            return BAD;
        }
        if (shed.pieceCount == 0 || shed.pieceCount > MOST_SHARED) {
            return NOT;
        }
        sharing.find(shed, n);
        if (asksDay) {
            return sharing.bestDays[what - DAY_OF];
        }
        int divisor = commonDivisor(sharing.bestEnd, shed.loomCount);
        return (what == 0 ? sharing.bestEnd : shed.loomCount) / divisor;
    }

    // ---- what the calls share

    private void startChange() {
        history.keep(shed);
        forgetAnswers();
    }

    private void forgetAnswers() {
        isFramed = false;
        isLaid = false;
        isWoven = false;
        speedBelow = 0;
        levelling.isKnown = false;
        sharing.knownDays = 0;
    }

    private static boolean isSpan(int from, int to) {
        return from >= 0 && from < to && to <= LATEST;
    }

    private static boolean isPieceAsTold(int kind, int length, int first, int last) {
        if (kind < PIECE || kind > BARRED) {
            return false;
        }
        boolean isLength = length >= 1 && length <= LONGEST;
        return (kind == TIGHT || isLength) && (kind == FREE || isSpan(first, last));
    }

    private static Piece newPiece(int kind, int length, int first, int last) {
        switch (kind) {
            case TIGHT:
                return new Tight(first, last);
            case FREE:
                return new Free(length);
            case SPLIT:
                return new Split(length, first, last, LEAST_WAYS);
            case BARRED:
                return new Barred(length, first, last, 0, 1);
            default:
                return new Piece(length, first, last);
        }
    }

    private Frame knownFrame() {
        if (!isFramed) {
            frame.build(shed, shed.loomCount, 0);
            isFramed = true;
        }
        return frame;
    }

    private Laying knownLaying() {
        if (!isLaid) {
            laying.layMost(knownFrame(), 1, 1);
            isLaid = true;
        }
        return laying;
    }

    private Laying knownCloth() {
        Laying known = knownLaying();
        if (!isWoven) {
            known.weave();
            isWoven = true;
        }
        return known;
    }

    private boolean doAllFit() {
        return knownLaying().missing == 0;
    }

    private int pieceInHour(Laying cloth, int loom, int t) {
        int stretch = frame.stretchAt(t);
        if (stretch < 0) {
            return NONE;
        }
        int place = loom * frame.stretchLength(stretch) + t - frame.moments[stretch];
        return cloth.pieceAtPlace(stretch, place);
    }

    private int beginsOn(Laying cloth, int loom) {
        int begins = 0;
        int before = NONE;
        for (int t = 0; t < LATEST; t++) {
            int now = pieceInHour(cloth, loom, t);
            if (now != NONE && now != before) {
                begins++;
            }
            before = now;
        }
        return begins;
    }

    /** The least delay, or number of looms, with which all fit; what fits still fits with more. */
    private int leastThatDoes(boolean isDelay, int from, int to) {
        if (!wouldFit(isDelay, to)) {
            return NONE;
        }
        int least = from;
        int most = to;
        for (int round = 0; round < MANY && least < most; round++) {
            int middle = (least + most) / 2;
            if (wouldFit(isDelay, middle)) {
                most = middle;
            } else {
                least = middle + 1;
            }
        }
        return least;
    }

    private boolean wouldFit(boolean isDelay, int number) {
        int looms = isDelay ? shed.loomCount : number;
        int delay = isDelay ? number : 0;
        triedFrame.build(shed, looms, delay);
        triedLaying.layMost(triedFrame, 1, 1);
        return triedLaying.missing == 0;
    }

    /**
     * Goes from the speed that some pieces need to that of pieces which still do not fit: each
     * round's pieces need a greater one, so that the last is the least for all.
     */
    private void findSpeed() {
        if (speedBelow != 0) {
            return;
        }
        Frame known = knownFrame();
        int chosen = (1 << shed.pieceCount) - 1;
        int above = known.lengthsOf(chosen);
        int below = known.takesOf(chosen);
        triedLaying.layMost(known, below, above);
        for (int round = 0; round < MANY && triedLaying.missing > 0; round++) {
            chosen = triedLaying.reachedPieces();
            above = known.lengthsOf(chosen);
            below = known.takesOf(chosen);
            triedLaying.layMost(known, below, above);
        }
        int divisor = commonDivisor(above, below);
        speedAbove = above / divisor;
        speedBelow = below / divisor;
    }

    /** The greatest common divisor of two numbers of which none is negative; at least 1. */
    private static int commonDivisor(int a, int b) {
        int greater = a;
        int less = b;
        for (int round = 0; round < MANY && less > 0; round++) {
            int rest = greater % less;
            greater = less;
            less = rest;
        }
        return Math.max(greater, 1);
    }

    // ---- kinds of pieces; none of them changes once it is made, so that history may share them

    private static class Piece {
        final int length;
        final int first;
        final int last;

        Piece(int length, int first, int last) {
            this.length = length;
            this.first = first;
            this.last = last;
        }

        int kindNumber() {
            return PIECE;
        }

        int lastIn(int shedEnd) {
            return last;
        }

        int waysTold() {
            return 1;
        }

        int barBegin() {
            return NONE;
        }

        int barStop() {
            return NONE;
        }

        boolean isBarredIn(int from, int to) {
            return false;
        }
    }

    private static final class Tight extends Piece {
        Tight(int first, int last) {
            super(last - first, first, last);
        }

        int kindNumber() {
            return TIGHT;
        }
    }

    private static final class Free extends Piece {
        Free(int length) {
            super(length, 0, LATEST);
        }

        int kindNumber() {
            return FREE;
        }

        int lastIn(int shedEnd) {
            return shedEnd;
        }
    }

    private static final class Split extends Piece {
        final int splitWays;

        Split(int length, int first, int last, int splitWays) {
            super(length, first, last);
            this.splitWays = splitWays;
        }

        int kindNumber() {
            return SPLIT;
        }

        int waysTold() {
            return splitWays;
        }
    }

    private static final class Barred extends Piece {
        final int begin;
        final int stop;

        Barred(int length, int first, int last, int begin, int stop) {
            super(length, first, last);
            this.begin = begin;
            this.stop = stop;
        }

        int kindNumber() {
            return BARRED;
        }

        int barBegin() {
            return begin;
        }

        int barStop() {
            return stop;
        }

        boolean isBarredIn(int from, int to) {
            return begin < to && from < stop;
        }
    }

    /** What the calls change, and undo gives back. */
    private static final class Shed {
        private int loomCount = 1;
        private int endMoment = FIRST_END;
        private int pieceCount;
        private final Piece[] pieces = new Piece[MOST_PIECES];

        private boolean has(int piece) {
            return pieceAt(piece) != null;
        }

        private Piece pieceAt(int piece) {
            return piece >= 0 && piece < pieceCount && piece < MOST_PIECES ? pieces[piece] : null;
        }

        private int add(Piece piece) {
            if (pieceCount >= MOST_PIECES) {
                return NOT;
            }
            pieces[pieceCount] = piece;
            pieceCount++;
            return pieceCount - 1;
        }

        private void put(int at, Piece piece) {
            if (has(at)) {
                pieces[at] = piece;
            }
        }

        private void remove(int at) {
            if (!has(at)) {
                return;
            }
            for (int i = at + 1; i < pieceCount; i++) {
                pieces[i - 1] = pieces[i];
            }
            pieceCount--;
            pieces[pieceCount] = null;
        }

        private int lengthOf(int piece) {
            Piece asked = pieceAt(piece);
            return asked == null ? 0 : asked.length;
        }

        private int allLengths() {
            int sum = 0;
            for (int i = 0; i < pieceCount; i++) {
                sum += lengthOf(i);
            }
            return sum;
        }

        private boolean hasSplitOrBarred() {
            for (int i = 0; i < pieceCount; i++) {
                Piece piece = pieceAt(i);
                if (piece instanceof Split || piece instanceof Barred) {
                    return true;
                }
            }
            return false;
        }

        private void copyFrom(Shed other) {
            loomCount = other.loomCount;
            endMoment = other.endMoment;
            pieceCount = other.pieceCount;
            for (int i = 0; i < MOST_PIECES; i++) {
                pieces[i] = other.pieces[i];
            }
        }
    }

    /** The sheds ahead of the latest changes, in a ring: the oldest is written over. */
    private static final class History {
        private final Shed[] kept = new Shed[MOST_UNDONE];
        private int next;
        private int keptCount;

        History() {
            for (int i = 0; i < MOST_UNDONE; i++) {
                kept[i] = new Shed();
            }
        }

        private void keep(Shed shed) {
            Shed place = kept[next];
            if (place != null) {
                place.copyFrom(shed);
            }
            next = (next + 1) % MOST_UNDONE;
            keptCount = Math.min(keptCount + 1, MOST_UNDONE);
        }

        private void restore(Shed shed) {
            if (keptCount == 0) {
                return;
            }
            next = (next + MOST_UNDONE - 1) % MOST_UNDONE;
            keptCount--;
            Shed place = kept[next];
            if (place != null) {
                shed.copyFrom(place);
            }
        }
    }

    /** Moments and stretches of a shed, and what pieces take in them. */
    private static final class Frame {
        private int loomCount;
        private int pieceCount;
        private int momentCount;
        private int stretchCount;
        private final int[] moments = new int[MOST_MOMENTS];
        private final int[] lengths = new int[MOST_PIECES];
        private final int[] waysHere = new int[MOST_PIECES];
        /** For each piece the stretches where it may lie, as bits. */
        private final long[] open = new long[MOST_PIECES];

        /** With so many looms, and each last moment put off by the delay. */
        private void build(Shed shed, int looms, int delay) {
            loomCount = looms;
            pieceCount = shed.pieceCount;
            momentCount = 0;
            for (int i = 0; i < pieceCount; i++) {
                addMomentsOf(shed.pieceAt(i), shed.endMoment, delay);
            }
            stretchCount = Math.max(momentCount - 1, 0);
            for (int i = 0; i < pieceCount; i++) {
                Piece piece = shed.pieceAt(i);
                lengths[i] = shed.lengthOf(i);
                waysHere[i] = piece == null ? 0 : Math.min(piece.waysTold(), looms);
                open[i] = openFor(piece, shed.endMoment, delay);
            }
        }

        private void addMomentsOf(Piece piece, int shedEnd, int delay) {
            if (piece == null) {
                return;
            }
            addMoment(piece.first);
            addMoment(piece.lastIn(shedEnd) + delay);
            if (piece instanceof Barred) {
                addMoment(piece.barBegin());
                addMoment(piece.barStop());
            }
        }

        private void addMoment(int t) {
            int at = 0;
            while (at < momentCount && moments[at] < t) {
                at++;
            }
            boolean isThere = at < momentCount && moments[at] == t;
            if (isThere || momentCount >= MOST_MOMENTS) {
                return;
            }
            for (int i = momentCount; i > at; i--) {
                moments[i] = moments[i - 1];
            }
            moments[at] = t;
            momentCount++;
        }

        private long openFor(Piece piece, int shedEnd, int delay) {
            if (piece == null) {
                return 0L;
            }
            int last = piece.lastIn(shedEnd) + delay;
            long bits = 0L;
            for (int s = 0; s < stretchCount; s++) {
                int from = moments[s];
                int to = moments[s + 1];
                if (piece.first <= from && to <= last && !piece.isBarredIn(from, to)) {
                    bits |= 1L << s;
                }
            }
            return bits;
        }

        private int stretchLength(int stretch) {
            return moments[stretch + 1] - moments[stretch];
        }

        private int stretchTakes(int stretch) {
            return loomCount * stretchLength(stretch);
        }

        private int pieceTakes(int piece, int stretch) {
            boolean mayLie = (open[piece] >>> stretch & 1L) != 0L;
            return mayLie ? waysHere[piece] * stretchLength(stretch) : 0;
        }

        /** The stretch with the hour from t on, or -1. */
        private int stretchAt(int t) {
            for (int s = 0; s < stretchCount; s++) {
                if (moments[s] <= t && t < moments[s + 1]) {
                    return s;
                }
            }
            return -1;
        }

        private boolean hasPieceNowhere() {
            for (int p = 0; p < pieceCount; p++) {
                if (open[p] == 0L) {
                    return true;
                }
            }
            return false;
        }

        private int lengthsOf(int chosen) {
            int sum = 0;
            for (int p = 0; p < pieceCount; p++) {
                if ((chosen >>> p & 1) != 0) {
                    sum += lengths[p];
                }
            }
            return sum;
        }

        /** The most that could be laid of chosen pieces if they were long without end. */
        private int takesOf(int chosen) {
            int sum = 0;
            for (int s = 0; s < stretchCount; s++) {
                int wanted = 0;
                for (int p = 0; p < pieceCount; p++) {
                    if ((chosen >>> p & 1) != 0) {
                        wanted += pieceTakes(p, s);
                    }
                }
                sum += Math.min(wanted, stretchTakes(s));
            }
            return sum;
        }
    }

    /**
     * A laying of the most, found as a greatest flow. A search goes from pieces to stretches that
     * could take more of them, and from stretches to pieces that could give way there; what the
     * last search of {@link #layMost} reached, finding no room, is what is crowded.
     */
    private static final class Laying {
        /** Where a search begins; where it has not come. */
        private static final int START = -1, UNSEEN = -2;

        private int pieceCount;
        private int stretchCount;
        /** What of all lengths is not laid. */
        private int missing;
        private final int[] left = new int[MOST_PIECES];
        private final int[] room = new int[MOST_STRETCHES];
        private final int[][] laid = new int[MOST_PIECES][MOST_STRETCHES];
        /** What a piece would take in a stretch beyond what is laid there. */
        private final int[][] more = new int[MOST_PIECES][MOST_STRETCHES];

        /** For each piece the stretch where it would give way. */
        private final int[] leaves = new int[MOST_PIECES];
        /** For each stretch the piece that would come there. */
        private final int[] comes = new int[MOST_STRETCHES];
        private final int[] queue = new int[MOST_STRETCHES];
        private int queued;

        /** Lengths and what is taken are multiplied, so that fractions become whole amounts. */
        private void layMost(Frame frame, int timesLength, int timesTaken) {
            prepare(frame, timesLength, timesTaken);
            for (int p = 0; p < pieceCount; p++) {
                layPlainly(p);
            }
            int end = findRoom();
            for (int round = 0; round < MANY && end >= 0; round++) {
                layAlong(end);
                end = findRoom();
            }
        }

        private void prepare(Frame frame, int timesLength, int timesTaken) {
            pieceCount = frame.pieceCount;
            stretchCount = frame.stretchCount;
            missing = 0;
            for (int s = 0; s < stretchCount; s++) {
                room[s] = frame.stretchTakes(s) * timesTaken;
            }
            for (int p = 0; p < pieceCount; p++) {
                left[p] = frame.lengths[p] * timesLength;
                missing += left[p];
                for (int s = 0; s < stretchCount; s++) {
                    laid[p][s] = 0;
                    more[p][s] = frame.pieceTakes(p, s) * timesTaken;
                }
            }
        }

        /** Saves most of the searches. */
        private void layPlainly(int p) {
            for (int s = 0; s < stretchCount && left[p] > 0; s++) {
                int amount = Math.min(left[p], Math.min(room[s], more[p][s]));
                move(p, s, amount);
                room[s] -= amount;
                left[p] -= amount;
                missing -= amount;
            }
        }

        private void move(int p, int s, int amount) {
            laid[p][s] += amount;
            more[p][s] -= amount;
        }

        /** The stretch with room that pieces not laid whole could reach, or -1. */
        private int findRoom() {
            clearSearch();
            for (int p = 0; p < pieceCount; p++) {
                if (left[p] > 0) {
                    reachFromPiece(p, START);
                }
            }
            for (int i = 0; i < queued && i < MOST_STRETCHES; i++) {
                int s = queue[i];
                if (room[s] > 0) {
                    return s;
                }
                reachFromStretch(s, 0);
            }
            return -1;
        }

        private void clearSearch() {
            Arrays.fill(leaves, UNSEEN);
            Arrays.fill(comes, UNSEEN);
            queued = 0;
        }

        private void reachFromPiece(int p, int leaving) {
            leaves[p] = leaving;
            for (int s = 0; s < stretchCount; s++) {
                if (more[p][s] > 0 && comes[s] == UNSEEN && queued < MOST_STRETCHES) {
                    comes[s] = p;
                    queue[queued] = s;
                    queued++;
                }
            }
        }

        /** Pieces with a number below the lowest stay where they are. */
        private void reachFromStretch(int s, int lowest) {
            for (int p = lowest; p < pieceCount; p++) {
                if (leaves[p] == UNSEEN && laid[p][s] > 0) {
                    reachFromPiece(p, s);
                }
            }
        }

        private void layAlong(int end) {
            int p = startOf(end);
            if (p < 0) {
                return;
            }
            int amount = narrowest(end, Math.min(left[p], room[end]));
            moveAlong(end, amount);
            room[end] -= amount;
            left[p] -= amount;
            missing -= amount;
        }

        /** The piece with which the way to a stretch begins, or -1. */
        private int startOf(int end) {
            int s = end;
            for (int i = 0; i < MOST_STRETCHES && s >= 0; i++) {
                int p = comes[s];
                if (p < 0 || leaves[p] == START) {
                    return p;
                }
                s = leaves[p];
            }
            return -1;
        }

        /** What can be moved along the way to a stretch, at most the amount told. */
        private int narrowest(int end, int amount) {
            int least = amount;
            int s = end;
            for (int i = 0; i < MOST_STRETCHES && s >= 0; i++) {
                int p = comes[s];
                if (p < 0) {
                    return 0;
                }
                least = Math.min(least, more[p][s]);
                s = leaves[p];
                if (s >= 0) {
                    least = Math.min(least, laid[p][s]);
                }
            }
            return least;
        }

        private void moveAlong(int end, int amount) {
            int s = end;
            for (int i = 0; i < MOST_STRETCHES && s >= 0; i++) {
                int p = comes[s];
                if (p < 0) {
                    return;
                }
                move(p, s, amount);
                s = leaves[p];
                if (s >= 0) {
                    move(p, s, -amount);
                }
            }
        }

        /** Makes the laying, where all fit, the cloth. */
        private void weave() {
            for (int p = 0; p < pieceCount; p++) {
                for (int s = 0; s < stretchCount; s++) {
                    raise(p, s);
                }
            }
        }

        /** Lays as much of a piece in a stretch as goes without touching what comes ahead. */
        private void raise(int p, int s) {
            int last = lastLaidBehind(p, s);
            for (int round = 0; round < MANY && last >= 0 && more[p][s] > 0; round++) {
                int end = findSwap(p, s);
                if (end < 0) {
                    return;
                }
                // a place that the piece itself leaves needs no room beside it
                boolean isOwn = end > s && laid[p][end] > 0;
                int from = isOwn ? end : last;
                int amount = isOwn ? laid[p][from] : Math.min(laid[p][from], room[end]);
                amount = narrowest(end, amount);
                moveAlong(end, amount);
                room[end] -= amount;
                move(p, from, -amount);
                room[from] += amount;
                last = lastLaidBehind(p, s);
            }
        }

        /** The last stretch behind s in which the piece is laid, or -1. */
        private int lastLaidBehind(int p, int s) {
            for (int behind = stretchCount - 1; behind > s; behind--) {
                if (laid[p][behind] > 0) {
                    return behind;
                }
            }
            return -1;
        }

        /**
         * Where what is put in stretch s too much can end, or -1: in a stretch with room, or in one
         * behind, from which the piece itself goes to s.
         */
        private int findSwap(int p, int s) {
            clearSearch();
            leaves[p] = START;
            comes[s] = p;
            queue[0] = s;
            queued = 1;
            for (int i = 0; i < queued && i < MOST_STRETCHES; i++) {
                int end = queue[i];
                if (room[end] > 0 || (end > s && laid[p][end] > 0)) {
                    return end;
                }
                reachFromStretch(end, p + 1);
            }
            return -1;
        }

        private int pieceAtPlace(int stretch, int place) {
            int behind = 0;
            for (int p = 0; p < pieceCount; p++) {
                behind += laid[p][stretch];
                if (place < behind) {
                    return p;
                }
            }
            return NONE;
        }

        private int reachedPieces() {
            int bits = 0;
            for (int p = 0; p < pieceCount; p++) {
                if (leaves[p] != UNSEEN) {
                    bits |= 1 << p;
                }
            }
            return bits;
        }

        private int reachedStretches(int from) {
            int bits = 0;
            for (int s = from; s < stretchCount && s < from + FIRST_BITS; s++) {
                if (comes[s] != UNSEEN) {
                    bits |= 1 << (s - from);
                }
            }
            return bits;
        }
    }

    /** The speeds of pieces on one loom that cost the least. */
    private static final class Levelling {
        private boolean isKnown;
        private int pieceCount;
        private final int[] lengths = new int[MOST_PIECES];
        private final int[] begins = new int[MOST_PIECES];
        private final int[] stops = new int[MOST_PIECES];
        private final int[] above = new int[MOST_PIECES];
        /** 0 while a piece has no speed yet. */
        private final int[] below = new int[MOST_PIECES];
        private int bestSum;
        private int bestBegin;
        private int bestStop;

        private void find(Shed shed) {
            if (isKnown) {
                return;
            }
            readPieces(shed);
            // each round gives one piece at least its speed
            for (int round = 0; round < pieceCount; round++) {
                findBest();
                giveSpeed();
                takeOutBest();
            }
            isKnown = true;
        }

        private void readPieces(Shed shed) {
            pieceCount = shed.pieceCount;
            for (int p = 0; p < pieceCount; p++) {
                Piece piece = shed.pieceAt(p);
                if (piece != null) {
                    lengths[p] = piece.length;
                    begins[p] = piece.first;
                    stops[p] = piece.lastIn(shed.endMoment);
                }
                above[p] = 0;
                below[p] = 0;
            }
        }

        /** The greatest span begins with a piece and stops with one, else a part would be greater. */
        private void findBest() {
            bestSum = 0;
            bestBegin = 0;
            bestStop = 1;
            for (int p = 0; p < pieceCount; p++) {
                for (int q = 0; q < pieceCount; q++) {
                    if (below[p] == 0 && below[q] == 0 && begins[p] < stops[q]) {
                        compareSpan(begins[p], stops[q]);
                    }
                }
            }
        }

        private void compareSpan(int begin, int stop) {
            int sum = 0;
            for (int p = 0; p < pieceCount; p++) {
                if (isOpenIn(p, begin, stop)) {
                    sum += lengths[p];
                }
            }
            int here = sum * (bestStop - bestBegin);
            int best = bestSum * (stop - begin);
            boolean isEarlier = begin < bestBegin || (begin == bestBegin && stop < bestStop);
            if (here > best || (here == best && isEarlier)) {
                bestSum = sum;
                bestBegin = begin;
                bestStop = stop;
            }
        }

        private boolean isOpenIn(int p, int begin, int stop) {
            return below[p] == 0 && begins[p] >= begin && stops[p] <= stop;
        }

        private void giveSpeed() {
            int time = bestStop - bestBegin;
            int divisor = commonDivisor(bestSum, time);
            for (int p = 0; p < pieceCount; p++) {
                if (bestSum > 0 && isOpenIn(p, bestBegin, bestStop)) {
                    above[p] = bestSum / divisor;
                    below[p] = time / divisor;
                }
            }
        }

        private void takeOutBest() {
            for (int p = 0; p < pieceCount; p++) {
                begins[p] = momentWithoutBest(begins[p]);
                stops[p] = momentWithoutBest(stops[p]);
            }
        }

        private int momentWithoutBest(int t) {
            if (t <= bestBegin) {
                return t;
            }
            return t < bestStop ? bestBegin : t - (bestStop - bestBegin);
        }
    }

    /** The sharing of pieces out to days. Ends are told in parts of an hour, as many as looms. */
    private static final class Sharing {
        /** For how many days the sharing is known; 0: for none. */
        private int knownDays;
        private int dayCount;
        private int loomCount;
        private int pieceCount;
        private final int[] lengths = new int[MOST_SHARED];
        private final int[] sums = new int[MOST_DAYS];
        private final int[] longest = new int[MOST_DAYS];
        private final int[] daysNow = new int[MOST_SHARED];
        private final int[] bestDays = new int[MOST_SHARED];
        private int bestEnd;

        private void find(Shed shed, int n) {
            if (knownDays == n) {
                return;
            }
            dayCount = Math.min(n, MOST_DAYS);
            loomCount = shed.loomCount;
            pieceCount = Math.min(shed.pieceCount, MOST_SHARED);
            for (int p = 0; p < pieceCount; p++) {
                lengths[p] = shed.lengthOf(p);
            }
            Arrays.fill(sums, 0);
            Arrays.fill(longest, 0);
            bestEnd = MANY;
            share(this, 0, 0);
            knownDays = n;
        }

        /**
         * Shares out the pieces from this one on. Days are alike, so that the first sharing begins
         * them in their order: of days without pieces only the first is tried.
         */
        private static void share(Sharing all, int piece, int begun) {
            int end = all.latestEnd();
            if (end >= all.bestEnd) {
                return;
            }
            if (piece >= all.pieceCount) {
                all.keepBest(end);
                return;
            }
            for (int day = 0; day <= begun && day < all.dayCount; day++) {
                int longestBefore = all.longest[day];
                all.put(piece, day);
                share(all, piece + 1, Math.max(begun, day + 1));
                all.sums[day] -= all.lengths[piece];
                all.longest[day] = longestBefore;
            }
        }

        private void put(int piece, int day) {
            daysNow[piece] = day;
            sums[day] += lengths[piece];
            longest[day] = Math.max(longest[day], lengths[piece]);
        }

        private int latestEnd() {
            int latest = 0;
            for (int day = 0; day < dayCount; day++) {
                latest = Math.max(latest, Math.max(longest[day] * loomCount, sums[day]));
            }
            return latest;
        }

        private void keepBest(int end) {
            bestEnd = end;
            for (int p = 0; p < pieceCount; p++) {
                bestDays[p] = daysNow[p];
            }
        }
    }
}
