import com.sun.management.ThreadMXBean;
import java.lang.management.ManagementFactory;

/**
 * What is made: a shed makes its rows with itself; later a change makes one small object at most,
 * and what asks, or is refused, makes nothing.
 */
public final class RoomTest {
    /** In bytes: 3,300 numbers and 131 objects and arrays take less. */
    private static final long MOST_OF_A_SHED = 32_000;
    /** In bytes: a piece with five numbers. */
    private static final long MOST_OF_A_CHANGE = 48;
    /** In bytes, for what measuring itself makes. */
    private static final long SPARE = 2_000;

    private static final ThreadMXBean ROOM = roomOfThreads();
    private static int sink;

    public static void main(String[] args) {
        if (ROOM == null) {
            System.out.println("this machine does not tell what is made");
            return;
        }
        for (int round = 0; round < 3; round++) {
            // the first rounds only see to it that all classes are loaded
            measure(round == 2);
        }
        Check.finish();
    }

    private static ThreadMXBean roomOfThreads() {
        if (ManagementFactory.getThreadMXBean() instanceof ThreadMXBean room
                && room.isThreadAllocatedMemorySupported() && room.isThreadAllocatedMemoryEnabled()) {
            return room;
        }
        return null;
    }

    private static long made() {
        return ROOM.getThreadAllocatedBytes(Thread.currentThread().getId());
    }

    private static void measure(boolean isTold) {
        long start = made();
        LoomShed shed = new LoomShed();
        long ofShed = made() - start;

        start = made();
        int changes = change(shed);
        long ofChanges = made() - start;

        start = made();
        ask(shed);
        long ofAsking = made() - start;

        if (isTold) {
            Check.holds("a shed makes " + ofShed, ofShed <= MOST_OF_A_SHED + SPARE);
            Check.holds(changes + " changes make " + ofChanges,
                    ofChanges <= changes * MOST_OF_A_CHANGE + SPARE);
            Check.holds("asking makes " + ofAsking, ofAsking <= SPARE);
        }
    }

    private static int change(LoomShed shed) {
        int changes = 0;
        for (int i = 0; i < 12; i++) {
            shed.piece(i % 2 == 0 ? 3 : 4, 20, i, 60 - i);
            changes++;
        }
        for (int i = 0; i < 20; i++) {
            shed.ways(0, 2 + i % 5);
            shed.bar(1, i, 30 + i);
            shed.looms(1 + i % 6);
            shed.end(1 + i);
            shed.undo();
            shed.drop(11);
            shed.undo();
            shed.piece(0, 1, 2, 3);
            changes += 7;
        }
        return changes;
    }

    /** Each time a change that makes nothing comes first, so that all is found anew. */
    private static void ask(LoomShed shed) {
        for (int i = 0; i < 12; i++) {
            shed.looms(1 + i % 6);
            sink += shed.most() + shed.fits() + shed.lies(3, 4) + shed.on(0, 7) + shed.cuts();
            sink += shed.crowded(0) + shed.crowded(2) + shed.fewest() + shed.delay();
            sink += shed.speed(0) + shed.level(0, 0) + shed.days(4, 0) + shed.count(2);
            sink += shed.moment(3) + shed.told(0, 4) + shed.piece(9, 9, 9, 9) + shed.bar(0, 0, 1);
        }
        for (int i = 0; i < 12; i++) {
            shed.drop(0);
            sink += shed.days(4, 0) + shed.level(0, 1) + shed.cuts() + shed.speed(1);
        }
    }
}
