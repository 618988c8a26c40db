/** Promise 15: count. */
public final class CountTest {
    private static final Check CHECK = new Check("count");

    public static void main(String[] args) {
        MidiDesk desk = Check.desk(Check.file(1, 480,
                "00 FF5103 000001 00 903C01 00 903C00 00 803C40 7F 9F0101", "00 FF5103 000001",
                "01 FF2000 00 F051 " + "00".repeat(0x51) + " 00 A03C40"));
        desk.feed(0, 3);
        dueAll(desk, 3, 9, 1, 3, 480, 127, 2, 2, 0, 480);
        desk.write(2, false);
        dueAll(desk, 3, 9, 1, 3, 480, 127, 2, 2, desk.count(8), 480);
        int size = desk.back();
        CHECK.due("count(8)", desk.count(8), size);
        dueAll(desk, size, 9, 1, 3, 480, 127, 2, 2, size, 480);
        desk.read();
        dueAll(desk, 0, 9, 2, 3, 480, 127, 2, 2, size, 480);
        desk.clear(0);
        dueAll(desk, 0, 4, 2, 3, 480, 1, 1, 0, size, 480);
        desk.clear(1);
        desk.clear(2);
        dueAll(desk, 0, 0, 2, 3, 480, 0, 0, 0, size, 480);
        desk.read();
        dueAll(desk, 0, 0, -1, -1, -1, 0, 0, 0, size, -1);
        Check.read(desk, Check.file(0, 0xE850, ""));
        dueAll(desk, 0, 0, 0, 1, 0xE850, 0, 0, 0, size, 24 * 80);
        Check.read(desk, Check.file(0, 0xE2FF, ""));
        dueAll(desk, 0, 0, 0, 1, 0xE2FF, 0, 0, 0, size, 30 * 255);
        Check.read(desk, Check.file(2, 0xE3FF, "", ""));
        dueAll(desk, 0, 0, 2, 2, 0xE3FF, 0, 0, 0, size, 3 * 255);
        Check.read(desk, Check.file(2, 32767, "FFFFFF7F C001"));
        dueAll(desk, 0, 1, 2, 1, 32767, (1 << 28) - 1, 0, 0, size, 32767);
        Check.read(desk, Check.file(0, 1, "00 903C01 05 FF5103000001"));
        dueAll(desk, 0, 2, 0, 1, 1, 5, 1, 1, size, 1);
        CHECK.close();
    }

    private static void dueAll(MidiDesk desk, int... due) {
        for (int what = 0; what < due.length; what++) {
            CHECK.due("count(" + what + ")", desk.count(what), due[what]);
        }
        for (int what : new int[] {-1, 10, Integer.MIN_VALUE, Integer.MAX_VALUE}) {
            CHECK.due("count(" + what + ")", desk.count(what), -1);
        }
    }
}
