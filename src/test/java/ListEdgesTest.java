/** Promises 1 and 3 to 8, a sentence at a time: the edges of what is asked of the list. */
public final class ListEdgesTest {
    private static final Check CHECK = new Check("list edges");
    private static final String NOTHING = "[-1, -1, -1, -1, -1, -1]";
    private static final int[] FAR = {-2, Integer.MIN_VALUE, Integer.MAX_VALUE, 1 << 28, 100000};

    public static void main(String[] args) {
        newObject();
        readEmptiesInput();
        faultLeavesNoList();
        emptyList();
        whichEvents();
        whichValues();
        valuesThatAreNone();
        bytesOfEvents();
        orderOfList();
        tickArguments();
        stateAheadOfArguments();
        firstTempo();
        tempoFromItsTickOn();
        severalTempos();
        tempoOfFormatTwo();
        frames();
        restInParts();
        longestTimes();
        lengthOfNotes();
        endsOfNotes();
        CHECK.close();
    }

    private static void newObject() {
        CHECK.sentence("MidiDesk(): No bytes, no list");
        MidiDesk desk = new MidiDesk();
        CHECK.due("count(0)", desk.count(0), 0);
        CHECK.due("count(1)", desk.count(1), 0);
        CHECK.due("count(3)", desk.count(3), -1);
        CHECK.due("event 0", Check.event(desk, 0), NOTHING);
        CHECK.due("byteOf(0, 0)", desk.byteOf(0, 0), -1);
        CHECK.due("length(0)", desk.length(0), -1);
        CHECK.throwsState("time(0)", () -> desk.time(0));
        CHECK.due("read()", desk.read(), 1);
    }

    private static void readEmptiesInput() {
        CHECK.sentence("The input is read as a file, and is empty then");
        MidiDesk desk = new MidiDesk();
        String file = Check.file(0, 96, "00 C001");
        CHECK.due("read()", Check.read(desk, file), 0);
        CHECK.due("count(0)", desk.count(0), 0);
        CHECK.due("read() of nothing", desk.read(), 1);
        CHECK.due("no list behind it", desk.count(3), -1);
        CHECK.due("read() with a byte too many", Check.read(desk, file + "00"), 1 + 16 * 30);
        CHECK.due("count(0)", desk.count(0), 0);
        CHECK.due("read() anew", Check.read(desk, file), 0);
        CHECK.due("count(1)", desk.count(1), 1);
    }

    private static void faultLeavesNoList() {
        CHECK.sentence("or the fault + 16 * its place, and there is none");
        String[] files = {"", "4D546865", Check.head(1, 1, 96),
            Check.head(1, 1, 96) + Check.chunk(Check.TRACK, "00 903C40 00 FF5103000001"),
            Check.file(0, 96, "00 903C40") + "00"};
        for (String file : files) {
            MidiDesk desk = Check.desk(Check.file(1, 96, "00 903C40 05 803C40", "00 FF5103000001"));
            CHECK.due("it has a fault", Check.read(desk, file) > 0 ? 1 : 0, 1);
            int[] counts = {0, 0, -1, -1, -1, 0, 0, 0, 0, -1};
            for (int what = 0; what < counts.length; what++) {
                CHECK.due("count(" + what + ")", desk.count(what), counts[what]);
            }
            CHECK.due("event 0", Check.event(desk, 0), NOTHING);
            CHECK.due("byteOf(0, 0)", desk.byteOf(0, 0), -1);
            CHECK.due("length(0)", desk.length(0), -1);
            CHECK.throwsState("rest(0)", () -> desk.rest(0));
            CHECK.throwsState("clear(0)", () -> desk.clear(0));
        }
    }

    private static void emptyList() {
        CHECK.sentence("0, and there is a list; Ends of tracks are none of them");
        MidiDesk desk = Check.desk(Check.file(1, 96, "", ""));
        int[] counts = {0, 0, 1, 2, 96, 0, 0, 0, 0, 96};
        for (int what = 0; what < counts.length; what++) {
            CHECK.due("count(" + what + ")", desk.count(what), counts[what]);
        }
        CHECK.due("event 0", Check.event(desk, 0), NOTHING);
        CHECK.due("length(0)", desk.length(0), -1);
        CHECK.due("time(96)", desk.time(96), 500000);
        CHECK.due("transpose(16, 127)", desk.transpose(16, 127), 0);
        CHECK.due("grid(100000)", desk.grid(100000), 0);
        CHECK.due("clear(1)", desk.clear(1), 0);
        CHECK.due("write(1, true)", desk.write(1, true), 14 + 24);
    }

    private static void whichEvents() {
        CHECK.sentence("NONE when there is no such event");
        MidiDesk desk = Check.desk(Check.file(1, 96, "01 903C40", "02 F001 55"));
        CHECK.due("event 0", Check.event(desk, 0), "[1, 0, 144, 60, 64, -1]");
        CHECK.due("event 1", Check.event(desk, 1), "[2, 1, 240, -1, -1, 1]");
        CHECK.due("event -1", Check.event(desk, -1), NOTHING);
        CHECK.due("event 2", Check.event(desk, 2), NOTHING);
        for (int k : FAR) {
            CHECK.due("event " + k, Check.event(desk, k), NOTHING);
        }
        desk.clear(1);
        CHECK.due("event 1 when it has gone", Check.event(desk, 1), NOTHING);
    }

    private static void whichValues() {
        CHECK.sentence("NONE for others");
        MidiDesk desk = Check.desk(Check.file(0, 96, "01 903C40 00 FF0101 55"));
        for (int k = 0; k < 2; k++) {
            CHECK.due("event(" + k + ", -1)", desk.event(k, -1), -1);
            CHECK.due("event(" + k + ", 6)", desk.event(k, 6), -1);
            for (int what : FAR) {
                CHECK.due("event(" + k + ", " + what + ")", desk.event(k, what), -1);
            }
        }
    }

    private static void valuesThatAreNone() {
        CHECK.sentence("NONE where it has none");
        MidiDesk desk = Check.desk(Check.file(0, 96,
                "00 800000 00 BF7F7F 00 C000 00 DF7F 00 E00000 00 F000 00 F70100 00 FF0000 00 FF7F0100"));
        String[] due = {"[0, 0, 128, 0, 0, -1]", "[0, 0, 191, 127, 127, -1]", "[0, 0, 192, 0, -1, -1]",
            "[0, 0, 223, 127, -1, -1]", "[0, 0, 224, 0, 0, -1]", "[0, 0, 240, -1, -1, 0]",
            "[0, 0, 247, -1, -1, 1]", "[0, 0, 255, 0, -1, 0]", "[0, 0, 255, 127, -1, 1]"};
        for (int k = 0; k < due.length; k++) {
            CHECK.due("event " + k, Check.event(desk, k), due[k]);
        }
    }

    private static void bytesOfEvents() {
        CHECK.sentence("Byte i of those that follow the number of the k-th event; NONE when there is none");
        MidiDesk desk = Check.desk(Check.file(1, 96, "00 F002 00FF 01 FF0500 01 903C40",
                "03 F703 808182"));
        int[][] due = {{0, 255}, {}, {}, {0x80, 0x81, 0x82}};
        for (int k = -1; k <= due.length; k++) {
            int size = k < 0 || k == due.length ? 0 : due[k].length;
            for (int i = -1; i <= size; i++) {
                CHECK.due("byteOf(" + k + ", " + i + ")", desk.byteOf(k, i),
                        i < 0 || i == size ? -1 : due[k][i]);
            }
            for (int far : FAR) {
                CHECK.due("byteOf(" + k + ", " + far + ")", desk.byteOf(k, far), -1);
                CHECK.due("byteOf(" + far + ", 0)", desk.byteOf(far, 0), -1);
            }
        }
    }

    private static void orderOfList() {
        CHECK.sentence("with the same tick those of a lower track come first, of one track as they lie");
        StringBuilder all = new StringBuilder(Check.head(1, 16, 96));
        for (int track = 0; track < 16; track++) {
            // Track n has two events at tick 15 - n and two at tick 20.
            all.append(Check.track(String.format("%02X C07F 00 C000 %02X C0%02X 00 C001", 15 - track,
                    5 + track, track)));
        }
        MidiDesk desk = Check.desk(all.toString());
        CHECK.due("count(1)", desk.count(1), 64);
        for (int k = 0; k < 32; k++) {
            CHECK.due("event " + k, Check.event(desk, k), "[" + k / 2 + ", " + (15 - k / 2) + ", 192, "
                    + (k % 2 == 0 ? 127 : 0) + ", -1, -1]");
            CHECK.due("event " + (32 + k), Check.event(desk, 32 + k), "[20, " + k / 2 + ", 192, "
                    + (k % 2 == 0 ? k / 2 : 1) + ", -1, -1]");
        }
    }

    private static void tickArguments() {
        CHECK.sentence("IllegalArgumentException when t is not 0 .. 2^28 - 1");
        for (int division : new int[] {96, 0xE728, 0xE328}) {
            MidiDesk desk = Check.desk(Check.file(0, division, ""));
            CHECK.due("time(0)", desk.time(0), 0);
            CHECK.due("rest(0)", desk.rest(0), 0);
            CHECK.due("time(2^28 - 1)", desk.time(Check.LAST_TICK) > 0 ? 1 : 0, 1);
            CHECK.due("rest(2^28 - 1)", desk.rest(Check.LAST_TICK) >= 0 ? 1 : 0, 1);
            for (int t : new int[] {-1, 1 << 28, Integer.MIN_VALUE, Integer.MAX_VALUE}) {
                CHECK.throwsArgument("time(" + t + ")", () -> desk.time(t));
                CHECK.throwsArgument("rest(" + t + ")", () -> desk.rest(t));
            }
        }
    }

    private static void stateAheadOfArguments() {
        CHECK.sentence("IllegalStateException without a list; else IllegalArgumentException");
        MidiDesk desk = new MidiDesk();
        for (int t : new int[] {-1, 0, Check.LAST_TICK, 1 << 28, Integer.MIN_VALUE}) {
            CHECK.throwsState("time(" + t + ")", () -> desk.time(t));
            CHECK.throwsState("rest(" + t + ")", () -> desk.rest(t));
        }
    }

    private static void dueTime(MidiDesk desk, int t, long time, long rest) {
        CHECK.due("time(" + t + ")", desk.time(t), time);
        CHECK.due("rest(" + t + ")", desk.rest(t), rest);
    }

    private static void firstTempo() {
        CHECK.sentence("tempos are 500000 at first");
        MidiDesk desk = Check.desk(Check.file(0, 3, "05 FF5103000009"));
        dueTime(desk, 0, 0, 0);
        dueTime(desk, 1, 166666, 2);
        dueTime(desk, 2, 333333, 1);
        dueTime(desk, 3, 500000, 0);
        dueTime(desk, 5, 833333, 1);
        dueTime(desk, 6, 833336, 1);
    }

    private static void tempoFromItsTickOn() {
        CHECK.sentence("from each tempo event's tick on what it says; the sum over all ticks below t");
        MidiDesk desk = Check.desk(Check.file(1, 1, "02 FF5103000010", "03 FF5103000001 C0808000 FF5103FFFFFF"));
        dueTime(desk, 1, 500000, 0);
        dueTime(desk, 2, 1000000, 0);
        dueTime(desk, 3, 1000016, 0);
        dueTime(desk, 4, 1000017, 0);
        int late = 3 + (1 << 27);
        dueTime(desk, late - 1, 1000016 + (1 << 27) - 1, 0);
        dueTime(desk, late, 1000016 + (1 << 27), 0);
        dueTime(desk, late + 1, 1000016 + (1 << 27) + 0xFFFFFF, 0);
        MidiDesk first = Check.desk(Check.file(0, 1, "00 FF5103000007"));
        dueTime(first, 0, 0, 0);
        dueTime(first, 1, 7, 0);
        MidiDesk last = Check.desk(Check.file(0, 1, "FFFFFF7F FF5103000007"));
        dueTime(last, Check.LAST_TICK, 500000L * Check.LAST_TICK, 0);
    }

    private static void severalTempos() {
        CHECK.sentence("of several at one tick the last one of the list");
        MidiDesk one = Check.desk(Check.file(0, 1, "01 FF5103000005 00 FF5103000003 00 C001"));
        dueTime(one, 1, 500000, 0);
        dueTime(one, 2, 500003, 0);
        MidiDesk two = Check.desk(Check.file(1, 1, "01 FF5103000005", "01 FF5103000003"));
        dueTime(two, 2, 500003, 0);
        two.clear(1);
        dueTime(two, 2, 500005, 0);
        // On the grid both stand at 4, and that of the higher track is the last one.
        MidiDesk moved = Check.desk(Check.file(1, 1, "05 FF5103000005", "03 FF5103000003"));
        dueTime(moved, 6, 1500000 + 6 + 5, 0);
        moved.grid(4);
        dueTime(moved, 6, 2000000 + 6, 0);
    }

    private static void tempoOfFormatTwo() {
        CHECK.sentence("of format 2 by events of track 0 alone");
        String[] tracks = {"01 FF5103000005", "00 FF5103000001 01 FF5103000002", "03 FF5103000003"};
        dueTime(Check.desk(Check.file(2, 1, tracks)), 4, 500000 + 15, 0);
        dueTime(Check.desk(Check.file(1, 1, tracks)), 4, 1 + 2 + 2 + 3, 0);
        MidiDesk desk = Check.desk(Check.file(2, 1, tracks));
        CHECK.due("count(6)", desk.count(6), 4);
        desk.clear(0);
        dueTime(desk, 4, 2000000, 0);
        desk.write(1, false);
        dueTime(desk, 4, 2000000, 0);
        desk.back();
        desk.read();
        dueTime(desk, 4, 1 + 2 + 2 + 3, 0);
    }

    private static void frames() {
        CHECK.sentence("with frames: exactly so many seconds");
        int[][] frames = {{0xE8, 24}, {0xE7, 25}, {0xE2, 30}};
        for (int[] f : frames) {
            for (int ticks : new int[] {1, 2, 254, 255}) {
                MidiDesk desk = Check.desk(Check.file(1, f[0] << 8 | ticks, "00 FF5103000001"));
                int second = f[1] * ticks;
                CHECK.due("count(9)", desk.count(9), second);
                dueTime(desk, 0, 0, 0);
                dueTime(desk, 1, 1000000 / second, 1000000 % second);
                dueTime(desk, second - 1, 1000000L * (second - 1) / second,
                        1000000L * (second - 1) % second);
                dueTime(desk, second, 1000000, 0);
                dueTime(desk, 3600 * second, 3600000000L, 0);
                dueTime(desk, Check.LAST_TICK, 1000000L * Check.LAST_TICK / second,
                        1000000L * Check.LAST_TICK % second);
            }
        }
        CHECK.sentence("29 stands for 30000 in 1001 seconds");
        for (int ticks : new int[] {1, 2, 254, 255}) {
            MidiDesk desk = Check.desk(Check.file(1, 0xE300 | ticks, "00 FF5103000001"));
            CHECK.due("count(9)", desk.count(9), 3 * ticks);
            dueTime(desk, 0, 0, 0);
            dueTime(desk, 1, 100100 / (3 * ticks), 100100 % (3 * ticks));
            dueTime(desk, 30000 * ticks, 1001000000L, 0);
            dueTime(desk, Check.LAST_TICK, 100100L * Check.LAST_TICK / (3 * ticks),
                    100100L * Check.LAST_TICK % (3 * ticks));
        }
    }

    private static void restInParts() {
        CHECK.sentence("What was rounded away, in parts");
        MidiDesk desk = Check.desk(Check.file(0, 32767, "00 FF5103000001"));
        dueTime(desk, 1, 0, 1);
        dueTime(desk, 32766, 0, 32766);
        dueTime(desk, 32767, 1, 0);
        dueTime(desk, 32768, 1, 1);
        MidiDesk one = Check.desk(Check.file(0, 1, "00 FF5103000001"));
        dueTime(one, 1, 1, 0);
        dueTime(one, Check.LAST_TICK, Check.LAST_TICK, 0);
    }

    private static void longestTimes() {
        CHECK.sentence("The time of tick t in whole microseconds, rounded down");
        MidiDesk slow = Check.desk(Check.file(0, 1, "00 FF5103FFFFFF"));
        // (2^24 - 1) * (2^28 - 1)
        dueTime(slow, Check.LAST_TICK, 4503599342157825L, 0);
        MidiDesk parts = Check.desk(Check.file(0, 32767, "00 FF5103FFFFFF"));
        dueTime(parts, Check.LAST_TICK, 4503599342157825L / 32767, 4503599342157825L % 32767);
    }

    private static void lengthOfNotes() {
        CHECK.sentence("NONE without one, or when it begins none");
        for (int status = 0x80; status < 0xF0; status++) {
            boolean one = status >= 0xC0 && status <= 0xDF;
            String hex = String.format("00 %02X 3C ", status);
            String end = String.format("07 8%X 3C 00", status & 15);
            boolean begins = status >= 0x90 && status <= 0x9F;
            for (int second : new int[] {0, 1, 127}) {
                String body = hex + (one ? "" : String.format("%02X", second)) + end;
                MidiDesk desk = Check.desk(Check.file(0, 96, body));
                CHECK.due(body, desk.length(0), begins && second > 0 ? 7 : -1);
                CHECK.due(body + ", its end", desk.length(1), -1);
                CHECK.due(body + ", notes", desk.count(7), begins && second > 0 ? 1 : 0);
            }
        }
        MidiDesk desk = Check.desk(Check.file(0, 96, "00 903C01 00 903C00"));
        CHECK.due("no ticks", desk.length(0), 0);
        for (int k : new int[] {-1, 1, 2, Integer.MIN_VALUE, Integer.MAX_VALUE}) {
            CHECK.due("length(" + k + ")", desk.length(k), -1);
        }
        CHECK.due("as long as can be", Check.desk(Check.file(0, 96,
                "00 903C01 FFFFFF7F 903C00")).length(0), Check.LAST_TICK);
    }

    private static void dueLength(String what, String between, int due, String... others) {
        String[] tracks = new String[1 + others.length];
        tracks[0] = "00 953C40 05 " + between;
        System.arraycopy(others, 0, tracks, 1, others.length);
        CHECK.due(what, Check.desk(Check.file(1, 96, tracks)).length(0), due);
    }

    private static void endsOfNotes() {
        CHECK.sentence("up to the first event behind it in the list, of the same track, channel and first byte");
        dueLength("0x80 of any second byte", "853C7F 01 853C00", 5);
        dueLength("0x90 of second byte 0", "953C00 01 853C00", 5);
        dueLength("0x90 of second byte 1", "953C01 01 853C00", 6);
        dueLength("the channel below", "843C00 01 943C00 01 853C00", 7);
        dueLength("the channel above", "863C00 01 963C00 01 853C00", 7);
        dueLength("the first byte below", "853B00 01 953B00 01 853C00", 7);
        dueLength("the first byte above", "853D00 01 953D00 01 853C00", 7);
        dueLength("0xA0 is none", "A53C00 01 853C00", 6);
        dueLength("0xB0 is none", "B53C00 01 853C00", 6);
        dueLength("0xF0 is none", "F000 01 853C00", 6);
        dueLength("a meta event is none", "FF3C00 01 853C00", 6);
        dueLength("without one", "953C01", -1);
        dueLength("another track", "953C01 04 853C00", 9, "07 853C00 01 953C00");
        dueLength("another track alone", "953C01", -1, "07 853C00");
        MidiDesk ahead = Check.desk(Check.file(0, 96, "00 803C00 00 903C40"));
        CHECK.due("one ahead of it at the same tick", ahead.length(1), -1);
        MidiDesk twice = Check.desk(Check.file(0, 96, "00 903C40 02 903C40 03 803C00 04 803C00"));
        CHECK.due("the first of two", twice.length(0), 5);
        CHECK.due("the first of two for the second", twice.length(1), 3);
    }
}
