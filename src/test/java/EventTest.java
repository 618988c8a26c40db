/** Promises 4 and 5: event, byteOf, and the order of the list. */
public final class EventTest {
    private static final Check CHECK = new Check("event");

    public static void main(String[] args) {
        values();
        nothingThere();
        bytes();
        order();
        usedAgain();
        manyBytes();
        CHECK.close();
    }

    private static void values() {
        MidiDesk desk = Check.desk(Check.file(0, 96,
                "00 913C40 01 3D00 01 C205 01 E30102 01 F0 02 43F7 01 F7 00 01 FF 7F 03 0A0B0C 01 FF 00 00"));
        CHECK.due("event 0", Check.event(desk, 0), "[0, 0, 145, 60, 64, -1]");
        CHECK.due("event 1", Check.event(desk, 1), "[1, 0, 145, 61, 0, -1]");
        CHECK.due("event 2", Check.event(desk, 2), "[2, 0, 194, 5, -1, -1]");
        CHECK.due("event 3", Check.event(desk, 3), "[3, 0, 227, 1, 2, -1]");
        CHECK.due("event 4", Check.event(desk, 4), "[4, 0, 240, -1, -1, 2]");
        CHECK.due("event 5", Check.event(desk, 5), "[5, 0, 247, -1, -1, 0]");
        CHECK.due("event 6", Check.event(desk, 6), "[6, 0, 255, 127, -1, 3]");
        CHECK.due("event 7", Check.event(desk, 7), "[7, 0, 255, 0, -1, 0]");
        CHECK.due("the end is none", Check.event(desk, 8), "[-1, -1, -1, -1, -1, -1]");
    }

    private static void nothingThere() {
        MidiDesk desk = Check.desk(Check.file(0, 96, "00 913C40"));
        int[] places = {-1, 1, 1000, Integer.MIN_VALUE, Integer.MAX_VALUE};
        for (int k : places) {
            CHECK.due("event " + k, Check.event(desk, k), "[-1, -1, -1, -1, -1, -1]");
            CHECK.due("byteOf " + k, desk.byteOf(k, 0), -1);
        }
        int[] others = {-1, 6, 7, Integer.MIN_VALUE, Integer.MAX_VALUE};
        for (int what : others) {
            CHECK.due("event(0, " + what + ")", desk.event(0, what), -1);
        }
    }

    private static void bytes() {
        MidiDesk desk = Check.desk(Check.file(0, 96,
                "00 F0 02 43F7 01 F7 00 01 FF 7F 03 0A0BFF 01 903C40 01 FF 51 03 010203"));
        int[][] due = {{0x43, 0xF7}, {}, {0x0A, 0x0B, 0xFF}, {}, {1, 2, 3}};
        for (int k = 0; k < due.length; k++) {
            for (int i = 0; i < 5; i++) {
                CHECK.due("byteOf(" + k + ", " + i + ")", desk.byteOf(k, i),
                        i < due[k].length ? due[k][i] : -1);
            }
            CHECK.due("byteOf(" + k + ", -1)", desk.byteOf(k, -1), -1);
            CHECK.due("byteOf(" + k + ", least)", desk.byteOf(k, Integer.MIN_VALUE), -1);
            CHECK.due("byteOf(" + k + ", most)", desk.byteOf(k, Integer.MAX_VALUE), -1);
        }
    }

    /** By ticks, then tracks, then as they lie in the track. */
    private static void order() {
        MidiDesk desk = Check.desk(Check.file(1, 96, "05 C001 00 C002 05 C003",
                "00 C004 05 C005 00 C006 05 C007", "05 C008", ""));
        int[] ticks = {0, 5, 5, 5, 5, 5, 10, 10};
        int[] tracks = {1, 0, 0, 1, 1, 2, 0, 1};
        int[] bytes = {4, 1, 2, 5, 6, 8, 3, 7};
        CHECK.due("count(1)", desk.count(1), 8);
        for (int k = 0; k < 8; k++) {
            CHECK.due("tick " + k, desk.event(k, 0), ticks[k]);
            CHECK.due("track " + k, desk.event(k, 1), tracks[k]);
            CHECK.due("byte " + k, desk.event(k, 3), bytes[k]);
        }
    }

    /** The bytes of earlier lists take no room from later ones. */
    private static void manyBytes() {
        MidiDesk desk = new MidiDesk();
        for (int i = 0; i < 4; i++) {
            CHECK.due("read of 6144 bytes", Check.read(desk, Check.file(0, 96,
                    "00 F0 B000 " + String.format("%02X", i).repeat(6144))), 0);
            CHECK.due("last byte", desk.byteOf(0, 6143), i);
        }
    }

    /** Later lists in one object show nothing of earlier ones. */
    private static void usedAgain() {
        MidiDesk desk = Check.desk(Check.file(1, 96, "00 FF 01 03 010203 09 FF 02 01 04",
                "01 C001 00 C002 00 C003", "02 C004"));
        desk.clear(1);
        Check.read(desk, Check.file(1, 96, "07 903C40", "06 C00A 02 F0 01 77"));
        CHECK.due("count(1)", desk.count(1), 3);
        CHECK.due("event 0", Check.event(desk, 0), "[6, 1, 192, 10, -1, -1]");
        CHECK.due("event 1", Check.event(desk, 1), "[7, 0, 144, 60, 64, -1]");
        CHECK.due("event 2", Check.event(desk, 2), "[8, 1, 240, -1, -1, 1]");
        CHECK.due("byteOf(2, 0)", desk.byteOf(2, 0), 0x77);
        CHECK.due("event 3", Check.event(desk, 3), "[-1, -1, -1, -1, -1, -1]");
        Check.read(desk, Check.file(1, 96, "00 C001 01 C002 01 C003 01 C004", "01 C005 01 C006 00 C007"));
        int[] bytes = {1, 2, 5, 3, 6, 7, 4};
        for (int k = 0; k < 7; k++) {
            CHECK.due("byte " + k + " of a longer list", desk.event(k, 3), bytes[k]);
        }
    }
}
