/** Promises 10 and 11: grid and clear. */
public final class GridTest {
    private static final Check CHECK = new Check("grid");
    private static final int LAST = Check.LAST_TICK;

    public static void main(String[] args) {
        rounding();
        newOrder();
        lateTicks();
        wrongSteps();
        cleared();
        wrongTracks();
        CHECK.close();
    }

    private static MidiDesk steps() {
        return Check.desk(Check.file(0, 96, "00 C000 01 C001 01 C002 01 C003 01 C004 01 C005 01 C006 01 C007"));
    }

    private static void rounding() {
        MidiDesk even = steps();
        CHECK.due("grid(4)", even.grid(4), 6);
        CHECK.due("ticks on 4", Check.column(even, 0), "0 0 4 4 4 4 8 8 ");
        CHECK.due("grid(4) again", even.grid(4), 0);
        MidiDesk odd = steps();
        CHECK.due("grid(3)", odd.grid(3), 5);
        CHECK.due("ticks on 3", Check.column(odd, 0), "0 0 3 3 3 6 6 6 ");
        MidiDesk one = steps();
        CHECK.due("grid(1)", one.grid(1), 0);
        CHECK.due("ticks on 1", Check.column(one, 0), "0 1 2 3 4 5 6 7 ");
        MidiDesk far = steps();
        CHECK.due("grid(100000)", far.grid(100000), 7);
        CHECK.due("ticks on 100000", Check.column(far, 0), "0 0 0 0 0 0 0 0 ");
        CHECK.due("order of before", Check.column(far, 3), "0 1 2 3 4 5 6 7 ");
        MidiDesk half = Check.desk(Check.file(0, 96, "83864F C000 01 C001"));
        CHECK.due("ticks ahead", Check.column(half, 0), "49999 50000 ");
        CHECK.due("grid(100000)", half.grid(100000), 2);
        CHECK.due("ticks behind", Check.column(half, 0), "0 100000 ");
        CHECK.due("count(5)", half.count(5), 100000);
        CHECK.due("grid without events", Check.desk(Check.file(0, 96, "")).grid(7), 0);
    }

    /** Ticks of several tracks fall together: the lower track comes first, each as before. */
    private static void newOrder() {
        MidiDesk desk = Check.desk(Check.file(1, 96, "09 C001 01 C002 05 C003",
                "07 C004 00 C005 04 C006", "08 C007 08 C008"));
        CHECK.due("bytes ahead", Check.column(desk, 3), "4 5 7 1 2 6 3 8 ");
        CHECK.due("grid(10)", desk.grid(10), 7);
        CHECK.due("ticks", Check.column(desk, 0), "10 10 10 10 10 10 20 20 ");
        CHECK.due("tracks", Check.column(desk, 1), "0 0 1 1 1 2 0 2 ");
        CHECK.due("bytes", Check.column(desk, 3), "1 2 4 5 6 7 3 8 ");
    }

    private static void lateTicks() {
        MidiDesk desk = Check.desk(Check.file(1, 96, "01 C000", "FFFFFF7F C001"));
        CHECK.throwsArgument("grid(2)", () -> desk.grid(2));
        CHECK.throwsArgument("grid(65536)", () -> desk.grid(65536));
        CHECK.due("ticks as before", Check.column(desk, 0), "1 " + LAST + " ");
        CHECK.due("grid(1)", desk.grid(1), 0);
        // 2^28 - 1 is a multiple of 3, and its rest to 10 is 5.
        CHECK.due("grid(3)", desk.grid(3), 1);
        CHECK.due("ticks on 3", Check.column(desk, 0), "0 " + LAST + " ");
        CHECK.throwsArgument("grid(10)", () -> desk.grid(10));
        CHECK.due("grid(11)", desk.grid(11), 1);
        CHECK.due("ticks on 11", Check.column(desk, 0), "0 " + (LAST + 5) / 11 * 11 + " ");
    }

    private static void wrongSteps() {
        MidiDesk desk = steps();
        for (int step : new int[] {0, -1, 100001, Integer.MIN_VALUE, Integer.MAX_VALUE}) {
            CHECK.throwsArgument("grid(" + step + ")", () -> desk.grid(step));
        }
        CHECK.due("ticks as before", Check.column(desk, 0), "0 1 2 3 4 5 6 7 ");
        desk.read();
        CHECK.throwsState("grid(1)", () -> desk.grid(1));
        CHECK.throwsState("grid(0)", () -> desk.grid(0));
    }

    private static void cleared() {
        MidiDesk desk = Check.desk(Check.file(2, 96, "00 C001 02 C002", "01 C003 05 FF 01 01 77",
                "02 C004"));
        CHECK.due("clear(0)", desk.clear(0), 2);
        CHECK.due("tracks", Check.column(desk, 1), "1 2 1 ");
        CHECK.due("bytes", Check.column(desk, 3), "3 4 1 ");
        CHECK.due("byteOf(2, 0)", desk.byteOf(2, 0), 0x77);
        CHECK.due("count(1)", desk.count(1), 3);
        CHECK.due("count(3)", desk.count(3), 3);
        CHECK.due("count(5)", desk.count(5), 6);
        CHECK.due("clear(0) again", desk.clear(0), 0);
        CHECK.due("clear(1)", desk.clear(1), 2);
        CHECK.due("count(5)", desk.count(5), 2);
        CHECK.due("clear(2)", desk.clear(2), 1);
        CHECK.due("count(1)", desk.count(1), 0);
        CHECK.due("count(5)", desk.count(5), 0);
        CHECK.due("event(0, 0)", desk.event(0, 0), -1);
        CHECK.due("count(3)", desk.count(3), 3);
        CHECK.due("time stays", desk.time(96), 500000);
    }

    private static void wrongTracks() {
        MidiDesk desk = Check.desk(Check.file(1, 96, "00 C001", "00 C002"));
        for (int track : new int[] {-1, 2, 16, Integer.MIN_VALUE, Integer.MAX_VALUE}) {
            CHECK.throwsArgument("clear(" + track + ")", () -> desk.clear(track));
        }
        CHECK.due("count(1)", desk.count(1), 2);
        desk.read();
        CHECK.throwsState("clear(0)", () -> desk.clear(0));
        CHECK.throwsState("clear(-1)", () -> desk.clear(-1));
    }
}
