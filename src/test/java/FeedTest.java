/** Promises 1 and 2: a new object, feed. */
public final class FeedTest {
    private static final Check CHECK = new Check("feed");

    public static void main(String[] args) {
        newDesk();
        lengths();
        order();
        wrongSizes();
        limit();
        CHECK.close();
    }

    private static void newDesk() {
        MidiDesk desk = new MidiDesk();
        CHECK.due("NONE", MidiDesk.NONE, -1);
        int[] counts = {0, 0, -1, -1, -1, 0, 0, 0, 0, -1, -1};
        for (int what = 0; what < counts.length; what++) {
            CHECK.due("new count(" + what + ")", desk.count(what), counts[what]);
        }
        CHECK.due("new event(0, 0)", desk.event(0, 0), -1);
        CHECK.due("new byteOf(0, 0)", desk.byteOf(0, 0), -1);
        CHECK.due("new length(0)", desk.length(0), -1);
        CHECK.due("new written(0)", desk.written(0), -1);
        CHECK.due("new back()", desk.back(), -1);
        CHECK.throwsState("new time(0)", () -> desk.time(0));
        CHECK.throwsState("new time(-1)", () -> desk.time(-1));
        CHECK.throwsState("new rest(0)", () -> desk.rest(0));
        CHECK.throwsState("new rest(-1)", () -> desk.rest(-1));
        CHECK.throwsState("new transpose(0, 0)", () -> desk.transpose(0, 0));
        CHECK.throwsState("new transpose(17, 0)", () -> desk.transpose(17, 0));
        CHECK.throwsState("new grid(1)", () -> desk.grid(1));
        CHECK.throwsState("new grid(0)", () -> desk.grid(0));
        CHECK.throwsState("new clear(0)", () -> desk.clear(0));
        CHECK.throwsState("new clear(-1)", () -> desk.clear(-1));
        CHECK.throwsState("new write(0, false)", () -> desk.write(0, false));
        CHECK.throwsState("new write(3, false)", () -> desk.write(3, false));
        CHECK.due("new read()", desk.read(), 1);
    }

    private static void lengths() {
        MidiDesk desk = new MidiDesk();
        int sum = 0;
        for (int n = 1; n <= 8; n++) {
            sum += n;
            CHECK.due("feed n = " + n, desk.feed(-1L, n), sum);
            CHECK.due("count(0)", desk.count(0), sum);
        }
    }

    /** The fault's place tells how far the bytes were as they should be. */
    private static void order() {
        MidiDesk desk = new MidiDesk();
        desk.feed(0xFFFFFFFF4D546864L, 4);
        desk.feed(0x7777777700000006L, 4);
        desk.feed(0x1234560001000100L, 5);
        desk.feed(0xFFFFFFFFFFFFFF60L, 1);
        CHECK.due("read of the head's bytes", desk.read(), 10 + 16 * 14);
        desk.feed(0x4D546864L, 8);
        CHECK.due("read with 0 bytes ahead", desk.read(), 2);
        Check.read(desk, Check.file(1, 96, "00 F0 08 8081828384858687"));
        String data = "";
        for (int i = 0; i < 8; i++) {
            data += desk.byteOf(0, i) + " ";
        }
        CHECK.due("bytes of eight", data, "128 129 130 131 132 133 134 135 ");
    }

    private static void wrongSizes() {
        MidiDesk desk = new MidiDesk();
        int[] sizes = {0, -1, 9, 16, Integer.MIN_VALUE, Integer.MAX_VALUE};
        for (int n : sizes) {
            CHECK.due("feed n = " + n, desk.feed(5, n), -1);
            CHECK.due("count(0)", desk.count(0), 0);
        }
    }

    private static void limit() {
        MidiDesk desk = new MidiDesk();
        for (int i = 0; i < 1499; i++) {
            desk.feed(0, 8);
        }
        CHECK.due("feed to 11999", desk.feed(0, 7), 11999);
        CHECK.due("feed beyond 12000", desk.feed(0, 2), -1);
        CHECK.due("count(0)", desk.count(0), 11999);
        CHECK.due("feed to 12000", desk.feed(0, 1), 12000);
        CHECK.due("feed beyond 12000", desk.feed(0, 1), -1);
        CHECK.due("feed beyond 12000", desk.feed(0, Integer.MAX_VALUE), -1);
        CHECK.due("read", desk.read(), 2);
        CHECK.due("count(0) behind read", desk.count(0), 0);
        CHECK.due("feed anew", desk.feed(0, 1), 1);
    }
}
