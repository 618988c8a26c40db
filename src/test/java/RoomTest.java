import java.lang.management.ManagementFactory;

/** What the dearest runs of calls make stays far below the room that all calls of a run share. */
public final class RoomTest {
    private static final Check CHECK = new Check("room");
    /** 7.3 million elements of four bytes are the room; a tenth of it is allowed here. */
    private static final long ALLOWED = 7_300_000L * 4 / 10;

    public static void main(String[] args) {
        com.sun.management.ThreadMXBean threads =
                (com.sun.management.ThreadMXBean) ManagementFactory.getThreadMXBean();
        int[] big = Check.bytes(Check.file(0, 96, "00 903C40" + "00 3C40".repeat(999)));
        long before = threads.getThreadAllocatedBytes(Thread.currentThread().getId());
        longRun(big);
        long middle = threads.getThreadAllocatedBytes(Thread.currentThread().getId());
        manyDesks();
        long behind = threads.getThreadAllocatedBytes(Thread.currentThread().getId());
        due("a run with a list of 1000 events", middle - before);
        due("a run with 512 desks", behind - middle);
        CHECK.close();
    }

    private static void due(String run, long made) {
        System.out.println("room: " + run + " makes " + made + " bytes");
        CHECK.due(run + " keeps to the room", made <= ALLOWED ? 1 : 0, 1);
    }

    /** 378 calls feed 1000 events; the rest of 512 makes as much of them as it can. */
    private static void longRun(int[] big) {
        MidiDesk desk = new MidiDesk();
        Check.feed(desk, big);
        desk.read();
        for (int i = 0; i < 44; i++) {
            desk.write(i % 3, false);
            desk.back();
            desk.read();
        }
        CHECK.due("events", desk.count(1), 1000);
    }

    private static void manyDesks() {
        for (int i = 0; i < 512; i++) {
            new MidiDesk().feed(i, 8);
        }
    }
}
