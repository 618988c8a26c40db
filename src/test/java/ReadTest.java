/** Promise 3: read, with every fault and its place, and the short forms. */
public final class ReadTest {
    private static final Check CHECK = new Check("read");
    private static final int LETTERS = Check.LETTERS;
    private static final int BODY = Check.BODY;

    public static void main(String[] args) {
        missingBytes();
        longChunks();
        heads();
        divisions();
        numbers();
        ticks();
        statuses();
        highBytes();
        ends();
        tempos();
        tooMuch();
        trackCounts();
        otherChunks();
        stateBehindRead();
        CHECK.close();
    }

    private static void due(String what, String hex, int kind, int place) {
        CHECK.dueRead(what, hex, kind, place);
    }

    /** A body in a chunk of just its length, with no end of its own. */
    private static void dueTrack(String what, String body, int kind, int place) {
        CHECK.dueTrack(what, body, kind, place - BODY);
    }

    /** Cut anywhere, a file misses a byte at its end, or a track where a chunk could begin. */
    private static void missingBytes() {
        String whole = Check.plain(Check.file(1, 96, "00 90 3C 40 8100 3C 00",
                "00 FF 51 03 07A120 00 F0 02 0102 00 C1 05"));
        int size = whole.length() / 2;
        int second = BODY + Check.bytes("00 90 3C 40 8100 3C 00" + Check.END).length;
        for (int cut = 0; cut < size; cut++) {
            int kind = cut == LETTERS || cut == second ? 10 : 1;
            due("cut at " + cut, whole.substring(0, 2 * cut), kind, cut);
        }
        due("whole", whole, 0, 0);
        String body = "00 90 3C 40 8100 3C 00 00 FF 51 03 07A120 00 F0 02 0102 00 C1 05 00 FF 2F 00";
        int length = Check.bytes(body).length;
        for (int cut = 0; cut < length; cut++) {
            String shorter = Check.plain(body).substring(0, 2 * cut);
            dueTrack("chunk of " + cut, shorter, 1, BODY + cut);
            due("chunk of " + cut + ", one behind", Check.head(1, 2, 96)
                    + Check.chunk(Check.TRACK, shorter) + Check.track(""), 1, BODY + cut);
        }
        dueTrack("whole chunk", body, 0, 0);
        dueTrack("meta longer than its chunk", "00 FF 01 05 01020304", 1, BODY + 8);
        dueTrack("exclusive longer than its chunk", "00 F7 FFFFFF7F 01", 1, BODY + 7);
    }

    private static void longChunks() {
        String head = Check.head(1, 1, 96);
        due("track longer than the file", head + "4D54726B 00000005 00FF2F00", 1, BODY + 4);
        due("track far longer", head + "4D54726B FFFFFFFF 00FF2F00", 1, BODY + 4);
        due("other chunk longer", head + "41424344 00000002 00", 1, BODY + 1);
        due("other chunk far longer", head + "41424344 80000000 00", 1, BODY + 1);
        due("other chunk that fits", head + "41424344 00000001 00", 10, BODY + 1);
    }

    private static void heads() {
        due("letters", "4D546865 00000006", 2, 0);
        due("three letters", "58595A", 1, 3);
        due("letters of a track", "4D54726B", 2, 0);
        due("head's length 5", "4D546864 00000005", 2, 4);
        due("head's length 7", "4D546864 00000007", 2, 4);
        due("head's length 6 + 2^24", "4D546864 01000006", 2, 4);
        due("head's length cut", "4D546864 010000", 1, 7);
        due("format 3", Check.HEAD + "0003", 3, 8);
        due("format 256", Check.HEAD + "0100", 3, 8);
        due("format FFFF", Check.HEAD + "FFFF 0000 0000", 3, 8);
        due("format cut", Check.HEAD + "FF", 1, 9);
        due("0 tracks", Check.HEAD + "0001 0000", 3, 10);
        due("17 tracks", Check.HEAD + "0001 0011 0000", 3, 10);
        due("257 tracks", Check.HEAD + "0002 0101 0000", 3, 10);
        due("format 0 of 2 tracks", Check.HEAD + "0000 0002 0000", 3, 10);
        due("format 0 of 0 tracks", Check.HEAD + "0000 0000 0060", 3, 10);
        String[] sixteen = new String[16];
        for (int i = 0; i < 16; i++) {
            sixteen[i] = "";
        }
        due("16 tracks", Check.file(1, 96, sixteen), 0, 0);
        due("16 tracks of format 2", Check.file(2, 96, sixteen), 0, 0);
        due("1 track of format 0", Check.file(0, 96, ""), 0, 0);
    }

    private static void divisions() {
        int[] good = {1, 96, 32767, 0xE801, 0xE8FF, 0xE701, 0xE7FF, 0xE301, 0xE3FF, 0xE201, 0xE2FF};
        for (int division : good) {
            due("division " + division, Check.file(0, division, ""), 0, 0);
        }
        int[] bad = {0, 0x8000, 0x8001, 0xE800, 0xE700, 0xE300, 0xE200, 0xE901, 0xE601, 0xE401,
            0xE101, 0xFFFF};
        for (int division : bad) {
            due("division " + division, Check.file(0, division, ""), 3, 12);
        }
    }

    private static void numbers() {
        dueTrack("delta of four bytes", "80808000 FF2F00", 0, 0);
        dueTrack("delta of five bytes", "8080808000 FF2F00", 4, BODY);
        dueTrack("delta of four that goes on, then nothing", "80808080", 4, BODY);
        dueTrack("delta of three that goes on, then nothing", "808080", 1, BODY + 3);
        dueTrack("length of four bytes", "00 F0 80808001 55 " + Check.END, 0, 0);
        dueTrack("length of five bytes", "00 F0 8080808001 55 " + Check.END, 4, BODY + 2);
        dueTrack("meta's length of five", "00 FF 01 8080808001 55 " + Check.END, 4, BODY + 3);
        dueTrack("end's length of five", "00 FF 2F 8080808000", 4, BODY + 3);
        dueTrack("tempo's length of five", "00 FF 51 8080808003 000001", 4, BODY + 3);
        dueTrack("end's length in four bytes", "00 FF 2F 80808000", 0, 0);
        dueTrack("tempo's length in two bytes", "00 FF 51 8003 000001 " + Check.END, 0, 0);
        MidiDesk desk = Check.desk(Check.file(0, 96, "87FF7F C0 01 81 80 8000 C0 02"));
        CHECK.due("tick of 87FF7F", desk.event(0, 0), 131071);
        CHECK.due("tick behind 81808000", desk.event(1, 0), 131071 + (1 << 21));
    }

    private static void ticks() {
        dueTrack("last tick", "FFFFFF7F C0 01 00 FF2F00", 0, 0);
        dueTrack("tick too late", "FFFFFF7F C0 01 01 C0 01", 11, BODY + 6);
        dueTrack("tick too late, then nothing", "FFFFFF7F C0 01 01", 11, BODY + 6);
        dueTrack("end too late", "FFFFFF7F C0 01 01 FF2F00", 11, BODY + 6);
        dueTrack("tick too late, status wrong", "FFFFFF7F C0 01 FFFFFF7F F4", 11, BODY + 6);
        MidiDesk desk = Check.desk(Check.file(1, 96, "FFFFFF7F C0 01", "FFFFFF7F C0 01"));
        CHECK.due("tick of the second track", desk.event(1, 0), (1 << 28) - 1);
    }

    private static void statuses() {
        dueTrack("status left out at first", "00 3C 40", 5, BODY + 1);
        dueTrack("status left out behind a meta event", "00 903C40 00 FF0100 00 3C40", 5, BODY + 9);
        dueTrack("status left out behind 0xF0", "00 903C40 00 F000 00 3C40", 5, BODY + 8);
        dueTrack("status left out behind 0xF7", "00 903C40 00 F700 00 3C40", 5, BODY + 8);
        int at = BODY + Check.bytes("00903C40" + Check.END).length + 8 + 1;
        due("status left out in a second track", Check.head(1, 2, 96) + Check.track("00 903C40")
                + Check.track("00 3C40"), 5, at);
        for (int status = 0xF0; status <= 0xFE; status++) {
            boolean good = status == 0xF0 || status == 0xF7;
            String body = String.format("00 %02X 00 ", status) + Check.END;
            dueTrack("status " + status, body, good ? 0 : 5, BODY + 1);
        }
        for (int status = 0x80; status < 0xF0; status++) {
            boolean one = status >= 0xC0 && status < 0xE0;
            String bytes = one ? "01" : "0102";
            String body = String.format("00 %02X ", status) + bytes + " 05 " + bytes;
            MidiDesk desk = Check.desk(Check.file(0, 96, body));
            String rest = one ? ", 1, -1, -1]" : ", 1, 2, -1]";
            CHECK.due("status " + status, Check.event(desk, 0), "[0, 0, " + status + rest);
            CHECK.due("left out " + status, Check.event(desk, 1), "[5, 0, " + status + rest);
        }
    }

    private static void highBytes() {
        dueTrack("first byte", "00 90 80 40", 6, BODY + 2);
        dueTrack("first byte, then nothing", "00 90 FF", 6, BODY + 2);
        dueTrack("second byte", "00 90 40 80", 6, BODY + 3);
        dueTrack("only byte", "00 C0 80", 6, BODY + 2);
        dueTrack("second byte, status left out", "00 90 40 40 00 40 80", 6, BODY + 6);
        dueTrack("kind", "00 FF 80 00", 6, BODY + 2);
        dueTrack("kind 127", "00 FF 7F 00 " + Check.END, 0, 0);
        dueTrack("bytes of 0xF0 and 0xFF may be high", "00 F0 01 FF 00 FF 01 01 FF " + Check.END,
                0, 0);
    }

    private static void ends() {
        dueTrack("end ahead of the chunk's end", "00 FF2F00 00", 7, BODY + 4);
        dueTrack("two ends", "00 FF2F00 00 FF2F00", 7, BODY + 4);
        dueTrack("end with a byte", "00 FF2F01 00", 7, BODY + 3);
        dueTrack("end with a byte that is missing", "00 FF2F01", 7, BODY + 3);
        dueTrack("no end", "00 903C40", 1, BODY + 4);
        dueTrack("empty chunk", "", 1, BODY);
        dueTrack("end of late tick", "8100 FF2F00", 0, 0);
    }

    private static void tempos() {
        dueTrack("tempo of two bytes", "00 FF5102 0001 " + Check.END, 8, BODY + 3);
        dueTrack("tempo of four bytes", "00 FF5104 00000001 " + Check.END, 8, BODY + 3);
        dueTrack("tempo without bytes", "00 FF5100 " + Check.END, 8, BODY + 3);
        dueTrack("tempo of a long length", "00 FF518104", 8, BODY + 3);
        dueTrack("tempo of 0", "00 FF5103 000000 " + Check.END, 8, BODY + 4);
        dueTrack("tempo cut", "00 FF5103 0000", 1, BODY + 6);
        dueTrack("tempo of 1", "00 FF5103 000001 " + Check.END, 0, 0);
        dueTrack("tempo of 256", "00 FF5103 000100 " + Check.END, 0, 0);
        dueTrack("tempo of 65536", "00 FF5103 010000 " + Check.END, 0, 0);
    }

    private static void tooMuch() {
        String event = "00 903C40 ";
        String thousand = "00 903C40 " + "003C40 ".repeat(999);
        int behind = BODY + 4 + 3 * 999;
        dueTrack("1000 events", thousand + Check.END, 0, 0);
        dueTrack("1001 events", thousand + event + Check.END, 9, behind + 1);
        dueTrack("1001 events, status left out", thousand + "8000 3C40", 9, behind + 2);
        dueTrack("1001 events, the last one cut", thousand + "00 3C", 1, behind + 2);
        dueTrack("1001 events, the last one with a high byte", thousand + "00 3C80", 6, behind + 2);
        dueTrack("1001 events, the last one a tempo of 0", thousand + "00 FF5103000000",
                8, behind + 4);
        due("1000 events in two tracks", Check.file(1, 96, "00 903C40 " + "003C40 ".repeat(499),
                "00 903C40 " + "003C40 ".repeat(499)), 0, 0);
        int second = BODY + 4 + 3 * 499 + 4 + 8 + 4 + 3 * 499;
        due("1001 events in two tracks", Check.file(1, 96, "00 903C40 " + "003C40 ".repeat(499),
                "00 903C40 " + "003C40 ".repeat(500)), 9, second + 1);
        // BE40 is 8000 and BE41 is 8001.
        dueTrack("8000 bytes", "00 F0 BE40 " + "11".repeat(8000) + Check.END, 0, 0);
        dueTrack("8001 bytes", "00 F0 BE41 " + "11".repeat(8001) + Check.END, 9, BODY + 1);
        dueTrack("8001 bytes, one missing", "00 F0 BE41 " + "11".repeat(8000), 1, BODY + 8004);
        dueTrack("8000 bytes and one", "00 F0 BE40 " + "11".repeat(8000) + "00 FF0100 00 F70155",
                9, BODY + 8009);
        dueTrack("8000 bytes and a tempo", "00 F7 BE40 " + "11".repeat(8000)
                + "8100 FF5103000001", 9, BODY + 8006);
    }

    private static void trackCounts() {
        String head = Check.head(1, 1, 96);
        due("no track", head, 10, 14);
        due("a track too many", head + Check.track("") + Check.track(""), 10, 26);
        due("letters of a track too many", head + Check.track("") + "4D54726B", 10, 26);
        due("three letters behind", head + Check.track("") + "4D5472", 1, 29);
        due("a track too few", Check.head(1, 2, 96) + Check.track(""), 10, 26);
        due("fault ahead of too few", Check.head(1, 2, 96) + Check.chunk(Check.TRACK, "00"), 1, 23);
    }

    private static void otherChunks() {
        String other = Check.chunk("4D54686B ", "FF FF FF");
        String empty = Check.chunk("00000000 ", "");
        String again = Check.chunk("4D546864 ", "0003");
        MidiDesk desk = Check.desk(Check.head(1, 2, 96) + other + Check.track("00 C001") + empty
                + again + Check.track("00 C002") + other);
        CHECK.due("events among other chunks", desk.count(1), 2);
        CHECK.due("track behind other chunks", desk.event(1, 1), 1);
        CHECK.due("byte behind other chunks", desk.event(1, 3), 2);
    }

    private static void stateBehindRead() {
        MidiDesk desk = Check.desk(Check.file(0, 96, "00 C001 05 FF 01 02 AABB"));
        CHECK.due("write", desk.write(0, false), 22 + 3 + 6 + 4);
        CHECK.due("a read with a fault", Check.read(desk, "00000000"), 2);
        CHECK.due("count(1)", desk.count(1), 0);
        CHECK.due("count(2)", desk.count(2), -1);
        CHECK.due("count(5)", desk.count(5), 0);
        CHECK.due("event(0, 0)", desk.event(0, 0), -1);
        CHECK.due("byteOf(1, 0)", desk.byteOf(1, 0), -1);
        CHECK.throwsState("time(0)", () -> desk.time(0));
        CHECK.throwsState("write(0, true)", () -> desk.write(0, true));
        CHECK.due("count(8), of before", desk.count(8), 35);
        CHECK.due("back()", desk.back(), 35);
        CHECK.due("read()", desk.read(), 0);
        CHECK.due("event 1", Check.event(desk, 1), "[5, 0, 255, 1, -1, 2]");
        CHECK.due("byteOf(1, 1)", desk.byteOf(1, 1), 0xBB);
        CHECK.due("a read of a fault in its middle", Check.read(desk,
                Check.head(1, 1, 96) + Check.chunk(Check.TRACK, "00 C001 00 F4")), 5 + 16 * 26);
        CHECK.due("count(1)", desk.count(1), 0);
        CHECK.due("count(6)", desk.count(6), 0);
        CHECK.due("event(0, 0)", desk.event(0, 0), -1);
    }
}
