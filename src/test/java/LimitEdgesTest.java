/**
 * The edges of what is counted: 1000 events, 8000 bytes, 12000 bytes of input, 512 calls. Some need
 * more calls than an object is promised for; the class keeps to them all the same.
 */
public final class LimitEdgesTest {
    private static final Check CHECK = new Check("limit edges");

    public static void main(String[] args) {
        feedSizes();
        refusedFeeds();
        bytesOfFeed();
        longestInput();
        events();
        eventsOfTracks();
        bytesBehindNumbers();
        behindAllOfAnEvent();
        longestBack();
        longestFile();
        allCalls();
        CHECK.close();
    }

    private static void feedSizes() {
        CHECK.sentence("NONE, and nothing, when n is not 1 .. 8");
        int[] wrong = {0, 9, -1, -8, 10, 64, 257, Integer.MIN_VALUE, Integer.MAX_VALUE};
        MidiDesk desk = new MidiDesk();
        for (int round = 0; round < 2; round++) {
            for (int n : wrong) {
                CHECK.due("feed n = " + n, desk.feed(-1, n), -1);
                CHECK.due("count(0)", desk.count(0), round);
            }
            CHECK.due("feed n = 1", desk.feed(-1, 1), round + 1);
        }
        CHECK.due("feed n = 8", desk.feed(-1, 8), 10);
    }

    private static void refusedFeeds() {
        CHECK.sentence("and nothing");
        MidiDesk desk = new MidiDesk();
        for (int b : Check.bytes(Check.file(0, 96, "00 C001"))) {
            desk.feed(0x5555555555555555L, 0);
            desk.feed(b, 1);
            desk.feed(0x5555555555555555L, 9);
        }
        CHECK.due("read among refused feeds", desk.read(), 0);
        CHECK.due("event 0", Check.event(desk, 0), "[0, 0, 192, 1, -1, -1]");
    }

    private static void bytesOfFeed() {
        CHECK.sentence("The n lowest bytes of bytes, the highest of them first, are put behind the input");
        int[] file = Check.bytes(Check.file(0, 96, "00 F0 08 FF807F0001FE8100 00 C001"));
        for (int n = 1; n <= 8; n++) {
            MidiDesk desk = new MidiDesk();
            for (int from = 0; from < file.length; from += n) {
                // All bits above the n lowest bytes are set, and may not matter.
                long value = -1;
                int many = Math.min(n, file.length - from);
                for (int i = 0; i < many; i++) {
                    value = value << 8 | file[from + i];
                }
                CHECK.due("feed", desk.feed(value, many), from + many);
            }
            CHECK.due("read of a file fed by " + n, desk.read(), 0);
            for (int i = 0; i < 8; i++) {
                CHECK.due("byteOf(0, " + i + ")", desk.byteOf(0, i), file[25 + i]);
            }
        }
    }

    private static MidiDesk filled(int size) {
        MidiDesk desk = new MidiDesk();
        for (int i = 0; i < size / 8; i++) {
            desk.feed(0, 8);
        }
        if (size % 8 > 0) {
            desk.feed(0, size % 8);
        }
        return desk;
    }

    private static void longestInput() {
        CHECK.sentence("NONE, and nothing, when it would be longer than 12000");
        for (int n = 1; n <= 8; n++) {
            MidiDesk fits = filled(12000 - n);
            CHECK.due("feed to 12000", fits.feed(0, n), 12000);
            CHECK.due("feed of one more", fits.feed(0, 1), -1);
            CHECK.due("count(0)", fits.count(0), 12000);
            MidiDesk full = filled(12001 - n);
            CHECK.due("feed to 12001", full.feed(0, n), -1);
            CHECK.due("count(0)", full.count(0), 12001 - n);
        }
        MidiDesk empty = filled(12000);
        CHECK.due("read", empty.read(), 2);
        CHECK.due("feed behind read", empty.feed(0, 8), 8);
        String body = "00".repeat(12000 - 14 - 12 - 8);
        CHECK.dueRead("a file of 12000", Check.file(0, 96, "") + Check.chunk("41424344", body), 0, 0);
    }

    private static String programs(int many) {
        return many == 0 ? "" : "00 C001" + "00 01".repeat(many - 1);
    }

    private static void events() {
        CHECK.sentence("9 more than 1000 events (ends are none) (at what follows its delta)");
        int behind = 1 + 2 * 1000;
        CHECK.dueTrack("999", programs(999) + Check.END, 0, 0);
        CHECK.dueTrack("1000", programs(1000) + Check.END, 0, 0);
        CHECK.dueTrack("1001", programs(1001) + Check.END, 9, behind + 1);
        CHECK.dueTrack("1001, and no end", programs(1001), 9, behind + 1);
        CHECK.dueTrack("1001, a long delta", programs(1000) + "80808000 01", 9, behind + 4);
        for (String event : new String[] {"C001", "903C40", "F000", "F700", "FF0500", "FF5103000001"}) {
            CHECK.dueTrack("1000 and " + event, programs(1000) + "00" + event + Check.END, 9, behind + 1);
            CHECK.dueTrack("999 and " + event, programs(999) + "00" + event + Check.END, 0, 0);
        }
        MidiDesk desk = Check.desk(Check.file(0, 96, programs(999) + "05 02"));
        CHECK.due("count(1)", desk.count(1), 1000);
        CHECK.due("event 999", Check.event(desk, 999), "[5, 0, 192, 2, -1, -1]");
        CHECK.due("event 1000", Check.event(desk, 1000), "[-1, -1, -1, -1, -1, -1]");
        desk.write(0, true);
        desk.back();
        CHECK.due("1000 written and read again", desk.read(), 0);
        CHECK.due("count(1)", desk.count(1), 1000);
    }

    private static String spread(int last) {
        StringBuilder all = new StringBuilder(Check.head(1, 16, 96));
        for (int track = 0; track < 15; track++) {
            all.append(Check.track(programs(62)));
        }
        return all + Check.track(programs(last));
    }

    private static void eventsOfTracks() {
        // 15 tracks of 62 events, 930 in all, and their ends, which are none.
        CHECK.sentence("9 more than 1000 events (ends are none)");
        CHECK.dueRead("930 and 70 in 16 tracks", spread(70), 0, 0);
        int at = 14 + 15 * (8 + 1 + 2 * 62 + 4) + 8 + 1 + 2 * 70;
        CHECK.dueRead("930 and 71 in 16 tracks", spread(71), 9, at + 1);
        CHECK.dueRead("1000 and an empty track", Check.file(1, 96, programs(1000), ""), 0, 0);
        CHECK.dueRead("1000 and one in the next track", Check.file(1, 96, programs(1000), "00 C001"),
                9, 22 + 2001 + 4 + 8 + 1);
    }

    private static String exclusive(String status, int size) {
        return "00" + status + Check.number(size, 2) + "11".repeat(size);
    }

    private static void bytesBehindNumbers() {
        CHECK.sentence("9 more than 8000 bytes behind numbers of 0xF0, 0xF7, 0xFF in all");
        for (String status : new String[] {"F0", "F7", "FF05"}) {
            CHECK.dueTrack("8000 of " + status, exclusive(status, 8000) + Check.END, 0, 0);
            CHECK.dueTrack("8001 of " + status, exclusive(status, 8001) + Check.END, 9, 1);
            String most = exclusive("F0", 4000) + exclusive("F7", 3990);
            int at = Check.bytes(most).length;
            CHECK.dueTrack("8000 in three", most + exclusive(status, 10) + Check.END, 0, 0);
            CHECK.dueTrack("8001 in three", most + exclusive(status, 11) + Check.END, 9, at + 1);
        }
        String full = exclusive("F0", 8000);
        int behind = Check.bytes(full).length;
        CHECK.dueTrack("bytes of channels do not count", full + "00 903C40 00 F000 00 FF0500"
                + Check.END, 0, 0);
        CHECK.dueTrack("a tempo counts", full + "00 FF5103000001", 9, behind + 1);
        String three = exclusive("F0", 7997);
        CHECK.dueTrack("a tempo that fits", three + "00 FF5103000001" + Check.END, 0, 0);
        CHECK.dueRead("8000 in two tracks", Check.file(1, 96, exclusive("F0", 4000),
                exclusive("F0", 4000)), 0, 0);
        CHECK.dueRead("8001 in two tracks", Check.file(1, 96, exclusive("F0", 4000),
                exclusive("F0", 4001)), 9, 22 + 4004 + 4 + 8 + 1);
        MidiDesk desk = Check.desk(Check.file(0, 96, exclusive("F0", 7999) + "00 F7 01 22"));
        CHECK.due("byte 7998 of the first", desk.byteOf(0, 7998), 0x11);
        CHECK.due("byte 7999 of the first", desk.byteOf(0, 7999), -1);
        CHECK.due("byte 0 of the second", desk.byteOf(1, 0), 0x22);
    }

    private static void behindAllOfAnEvent() {
        CHECK.sentence("9, looked at behind all of an event");
        String full = programs(1000);
        int behind = 2001;
        CHECK.dueTrack("its delta goes on", full + "80808080", 4, behind);
        CHECK.dueTrack("its tick is too late", programs(999) + "FFFFFF7F 01 01 01", 11, behind + 3);
        CHECK.dueTrack("its status cannot be", full + "00 F4", 5, behind + 1);
        CHECK.dueTrack("its byte is high", full + "00 9080", 6, behind + 2);
        CHECK.dueTrack("its second byte is high", full + "00 903C80", 6, behind + 3);
        CHECK.dueTrack("its byte is missing", full + "00 903C", 1, behind + 3);
        CHECK.dueTrack("its number goes on", full + "00 F080808080", 4, behind + 2);
        CHECK.dueTrack("its bytes are missing", full + "00 F00211", 1, behind + 4);
        CHECK.dueTrack("its tempo has two bytes", full + "00 FF51020001", 8, behind + 3);
        CHECK.dueTrack("its tempo is 0", full + "00 FF5103000000", 8, behind + 4);
        CHECK.dueTrack("it is an end with bytes", full + "00 FF2F01 00", 7, behind + 3);
        CHECK.dueTrack("it is an end too early", full + Check.END + "00", 7, behind + 4);
        CHECK.dueTrack("the next one has a fault", full + "00 C001 00 F4", 9, behind + 1);
        CHECK.dueTrack("8001 bytes, one missing", "00 F0" + Check.number(8001, 2) + "11".repeat(8000),
                1, 8004);
        CHECK.dueTrack("a number far above 8000", "00 F0 FFFFFF7F 11", 1, 7);
    }

    /** Statuses that were left out make a file of 12000 bytes, or one more, out of a shorter one. */
    private static void longestBack() {
        CHECK.sentence("NONE, changing nothing, when it is longer than 12000");
        for (int more = 0; more <= 1; more++) {
            // 22 up to the body, 4 ahead of the bytes, 999 events of 4 bytes, an end of 4.
            int size = 12000 - 22 - 4 - 4 * 999 - 4 + more;
            MidiDesk desk = Check.desk(Check.file(0, 96,
                    exclusive("F0", size) + "00 903C40" + "00 3C40".repeat(998)));
            CHECK.due("write", desk.write(0, false), 12000 + more);
            desk.feed(0x4D54, 2);
            CHECK.due("back()", desk.back(), more == 0 ? 12000 : -1);
            CHECK.due("count(0)", desk.count(0), more == 0 ? 12000 : 2);
            CHECK.due("feed behind it", desk.feed(0x6864, 2), more == 0 ? -1 : 4);
            CHECK.due("count(8)", desk.count(8), 12000 + more);
            CHECK.due("last byte but one", desk.written(12000 + more - 2), 0x2F);
            CHECK.due("one behind the last byte", desk.written(12000 + more), -1);
            // With letters alone the length is missing: what was refused left the input as it was.
            CHECK.due("read()", desk.read(), more == 0 ? 0 : 1 + 16 * 4);
        }
    }

    /** The longest input, and each status in it that was left out is written. */
    private static void longestFile() {
        CHECK.sentence("How many bytes it has");
        String big = exclusive("F0", 7974);
        String brief = Check.file(0, 96, big + "00 903C40" + "8100 3C40".repeat(998));
        String whole = Check.file(0, 96, big + "00 903C40" + "8100 903C40".repeat(998));
        CHECK.due("the input", Check.bytes(brief).length, 12000);
        MidiDesk desk = Check.desk(brief);
        CHECK.due("write with brief", desk.write(0, true), 12000);
        CHECK.due("file with brief", Check.written(desk), Check.plain(brief));
        CHECK.due("write", desk.write(0, false), 12998);
        CHECK.due("file", Check.written(desk), Check.plain(whole));
        CHECK.due("count(8)", desk.count(8), 12998);
    }

    private static void allCalls() {
        CHECK.sentence("An object is used for at most 512 calls after it has been made");
        int[] file = Check.bytes(Check.file(0, 96, "00 F0" + Check.number(4040, 2) + "33".repeat(4040)));
        MidiDesk desk = new MidiDesk();
        int calls = 0;
        for (int from = 0; from < file.length; from += 8) {
            int many = Math.min(8, file.length - from);
            long value = 0;
            for (int i = 0; i < many; i++) {
                value = value << 8 | file[from + i];
            }
            CHECK.due("feed", desk.feed(value, many), from + many);
            calls++;
        }
        CHECK.due("read", desk.read(), 0);
        CHECK.due("write", desk.write(1, true), file.length);
        calls += 2;
        CHECK.due("calls are left", calls < 512 ? 1 : 0, 1);
        while (calls < 511) {
            CHECK.due("time", desk.time(96), 500000);
            calls++;
        }
        CHECK.due("the 512th call", desk.byteOf(0, 4039), 0x33);
    }
}
