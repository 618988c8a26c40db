/** Promises 12, 13 and 14: write, written and back. */
public final class WriteTest {
    private static final Check CHECK = new Check("write");

    public static void main(String[] args) {
        asRead();
        oneTrack();
        brief();
        numbers();
        emptyTracks();
        writtenBytes();
        wrongFormats();
        backAgain();
        tooLong();
        CHECK.close();
    }

    private static void due(MidiDesk desk, int format, boolean brief, String hex) {
        CHECK.due("bytes of " + format + ", " + brief, desk.write(format, brief),
                Check.plain(hex).length() / 2);
        CHECK.due("file of " + format + ", " + brief, Check.written(desk), Check.plain(hex));
    }

    private static void asRead() {
        String[] tracks = {"00 FF5103 07A120 0A 903C40 0A 803C00", "05 F0 02 43F7 05 F701 01 00 C207",
            "8100 E30102 00 FF7F00"};
        for (int format = 1; format <= 2; format++) {
            for (int division : new int[] {1, 96, 32767, 0xE728, 0xE3FF}) {
                String file = Check.file(format, division, tracks);
                due(Check.desk(file), format, false, file);
                due(Check.desk(file), 3 - format, false, Check.file(3 - format, division, tracks));
            }
        }
        String zero = Check.file(0, 96, tracks[0]);
        for (int format = 0; format <= 2; format++) {
            due(Check.desk(zero), format, false, Check.file(format, 96, tracks[0]));
        }
    }

    private static void oneTrack() {
        MidiDesk desk = Check.desk(Check.file(1, 96, "05 903C40 05 903C00", "05 913C40 02 913C00", "01 C001"));
        String merged = "01 C001 04 903C40 00 913C40 02 913C00 03 903C00";
        due(desk, 0, false, Check.file(0, 96, merged));
        CHECK.due("the list keeps its format", desk.count(2), 1);
        CHECK.due("the list keeps its tracks", desk.count(3), 3);
    }

    private static void brief() {
        String left = "00 903C40 01 3D40 00 913D40 00 903D40 00 C001 00 02 00 FF0100 00 C003 00 04 "
                + "00 F001 00 00 C005 00 06 00 F000 00 F000 00 F700 00 F700 00 FF0100 00 FF0100 00 C007";
        MidiDesk desk = Check.desk(Check.file(0, 96, left));
        due(desk, 0, true, Check.file(0, 96, left));
        String full = "00 903C40 01 903D40 00 913D40 00 903D40 00 C001 00 C002 00 FF0100 00 C003 "
                + "00 C004 00 F001 00 00 C005 00 C006 00 F000 00 F000 00 F700 00 F700 00 FF0100 00 FF0100 00 C007";
        due(desk, 0, false, Check.file(0, 96, full));
        due(Check.desk(Check.file(0, 96, full)), 1, true, Check.file(1, 96, left));
        MidiDesk two = Check.desk(Check.file(1, 96, "00 903C40 02 903C00", "01 903D40 02 903D00"));
        due(two, 1, true, Check.file(1, 96, "00 903C40 02 3C00", "01 903D40 02 3D00"));
        due(two, 0, true, Check.file(0, 96, "00 903C40 01 3D40 01 3C00 01 3D00"));
    }

    /** Long forms are read, the shortest ones written; the end's delta is 0. */
    private static void numbers() {
        String file = Check.head(0, 1, 96) + Check.chunk(Check.TRACK,
                "80808005 F0 808001 11 807F C001 8100 C001 FF7F C001 818000 C001 FFFF7F C001 81808000 C001 8101 FF2F 8000");
        due(Check.desk(file), 0, false, Check.file(0, 96,
                "05 F0 01 11 7F C001 8100 C001 FF7F C001 818000 C001 FFFF7F C001 81808000 C001"));
        due(Check.desk(Check.file(0, 96, "FFFFFF7F C001")), 0, false,
                Check.file(0, 96, "FFFFFF7F C001"));
        for (int size : new int[] {127, 128, 300}) {
            String number = size < 128 ? "7F" : String.format("%02X%02X", size >> 7 | 128, size & 127);
            String body = Check.file(0, 96, "00 FF 01 " + number + "AB".repeat(size));
            due(Check.desk(body), 0, false, body);
        }
    }

    private static void emptyTracks() {
        MidiDesk desk = Check.desk(Check.file(1, 96, "00 C001", "00 C002", ""));
        desk.clear(0);
        due(desk, 1, false, Check.file(1, 96, "", "00 C002", ""));
        due(desk, 0, false, Check.file(0, 96, "00 C002"));
        desk.clear(1);
        due(desk, 2, true, Check.file(2, 96, "", "", ""));
        due(desk, 0, true, Check.file(0, 96, ""));
        MidiDesk changed = Check.desk(Check.file(1, 96, "07 903C40 07 803C00", "0A 903D40"));
        changed.grid(5);
        changed.transpose(16, 2);
        due(changed, 1, false, Check.file(1, 96, "05 903E40 0A 803E00", "0A 903F40"));
    }

    private static void writtenBytes() {
        MidiDesk desk = Check.desk(Check.file(0, 0xE728, "00 FF0101 FF"));
        CHECK.due("nothing is written yet", desk.written(0), -1);
        CHECK.due("count(8)", desk.count(8), 0);
        desk.write(0, false);
        CHECK.due("written(0)", desk.written(0), 0x4D);
        CHECK.due("written(12)", desk.written(12), 0xE7);
        CHECK.due("written(26)", desk.written(26), 0xFF);
        CHECK.due("written(30)", desk.written(30), 0);
        for (int i : new int[] {-1, 31, 64, Integer.MIN_VALUE, Integer.MAX_VALUE}) {
            CHECK.due("written(" + i + ")", desk.written(i), -1);
        }
        desk.clear(0);
        CHECK.due("written stays when the list changes", desk.written(26), 0xFF);
        desk.write(0, false);
        CHECK.due("the latest one is shorter", desk.written(26), -1);
        CHECK.due("count(8)", desk.count(8), 26);
    }

    private static void wrongFormats() {
        MidiDesk desk = Check.desk(Check.file(0, 96, ""));
        desk.write(0, false);
        for (int format : new int[] {-1, 3, Integer.MIN_VALUE, Integer.MAX_VALUE}) {
            CHECK.throwsArgument("write(" + format + ")", () -> desk.write(format, true));
        }
        CHECK.due("written of before", Check.written(desk), Check.plain(Check.file(0, 96, "")));
        desk.read();
        CHECK.throwsState("write(0)", () -> desk.write(0, true));
        CHECK.throwsState("write(3)", () -> desk.write(3, true));
    }

    private static void backAgain() {
        MidiDesk desk = Check.desk(Check.file(1, 96, "00 C001", "00 C002"));
        desk.feed(0x1234, 2);
        CHECK.due("back() of nothing", desk.back(), -1);
        CHECK.due("input as before", desk.count(0), 2);
        desk.write(0, false);
        CHECK.due("back()", desk.back(), 32);
        CHECK.due("the input became it", desk.count(0), 32);
        CHECK.due("feed behind it", desk.feed(0, 1), 33);
        CHECK.due("back() again", desk.back(), 32);
        CHECK.due("read()", desk.read(), 0);
        CHECK.due("count(3)", desk.count(3), 1);
        CHECK.due("count(2)", desk.count(2), 0);
        CHECK.due("count(1)", desk.count(1), 2);
        CHECK.due("event 1", Check.event(desk, 1), "[0, 0, 192, 2, -1, -1]");
        CHECK.due("written is kept", desk.count(8), 32);
    }

    /** Statuses that were left out make a file of 12000 bytes, or one more, out of a shorter one. */
    private static void tooLong() {
        for (int more = 0; more <= 1; more++) {
            int size = 7974 + more;
            String big = "00 F0 " + String.format("%02X%02X", size >> 7 | 128, size & 127)
                    + "11".repeat(size);
            MidiDesk desk = Check.desk(Check.file(0, 96, big + "00 903C40" + "00 3C40".repeat(998)));
            CHECK.due("brief", desk.write(0, true), 22 + 4 + size + 4 + 3 * 998 + 4);
            CHECK.due("back() of brief", desk.back(), 22 + 4 + size + 4 + 3 * 998 + 4);
            int length = 22 + 4 + size + 4 * 999 + 4;
            CHECK.due("not brief", desk.write(0, false), length);
            CHECK.due("last byte but one", desk.written(length - 2), 0x2F);
            desk.read();
            desk.feed(7, 1);
            boolean fits = length <= 12000;
            CHECK.due("back()", desk.back(), fits ? length : -1);
            CHECK.due("count(0)", desk.count(0), fits ? length : 1);
        }
    }
}
