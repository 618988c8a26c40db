/** Promises 12 to 15 and the face, a sentence at a time: the edges of files written and of counts. */
public final class FileEdgesTest {
    private static final Check CHECK = new Check("file edges");
    private static final int[] FAR = {Integer.MIN_VALUE, Integer.MAX_VALUE, -2, 100000, 1 << 28};

    public static void main(String[] args) {
        formatArguments();
        oneTrackInOrder();
        inTheirTracks();
        divisionAsItWas();
        endOfDeltaZero();
        numbersWritten();
        chunkLengths();
        statusLeftOut();
        writtenBytes();
        latestWritten();
        backOfNothing();
        backReplacesInput();
        countOfNoList();
        countArguments();
        greatestTick();
        countsOfKinds();
        nothingElseThrows();
        CHECK.close();
    }

    private static void due(MidiDesk desk, int format, boolean brief, String hex) {
        CHECK.due("write(" + format + ", " + brief + ")", desk.write(format, brief), Check.bytes(hex).length);
        CHECK.due("file of " + format + ", " + brief, Check.written(desk), Check.plain(hex));
        CHECK.due("count(8)", desk.count(8), Check.bytes(hex).length);
    }

    private static void formatArguments() {
        CHECK.sentence("IllegalStateException without a list; else IllegalArgumentException when format is "
                + "not 0 .. 2");
        MidiDesk none = new MidiDesk();
        MidiDesk desk = Check.desk(Check.file(2, 96, "00 C001", ""));
        due(desk, 0, false, Check.file(0, 96, "00 C001"));
        for (int format : new int[] {-1, 3, 4, 256, 65536, Integer.MIN_VALUE, Integer.MAX_VALUE}) {
            for (int brief = 0; brief < 2; brief++) {
                boolean b = brief == 1;
                CHECK.throwsArgument("write(" + format + ")", () -> desk.write(format, b));
                CHECK.throwsState("write(" + format + ")", () -> none.write(format, b));
                CHECK.throwsState("write(0)", () -> none.write(0, b));
            }
        }
        CHECK.due("what was written before", desk.count(8), 29);
        CHECK.due("nothing was written", none.count(8), 0);
        due(desk, 1, false, Check.file(1, 96, "00 C001", ""));
        due(desk, 2, false, Check.file(2, 96, "00 C001", ""));
    }

    private static void oneTrackInOrder() {
        CHECK.sentence("0: all in one track, in the order of the list");
        String[] tracks = {"02 C001 00 C002", "01 C103 01 C104", "00 F00105 02 FF010106"};
        String merged = "00 F00105 01 C103 01 C001 00 C002 00 C104 00 FF010106";
        for (int format = 1; format <= 2; format++) {
            due(Check.desk(Check.file(format, 96, tracks)), 0, false, Check.file(0, 96, merged));
        }
        due(Check.desk(Check.file(1, 96, "", "")), 0, false, Check.file(0, 96, ""));
        due(Check.desk(Check.file(0, 96, merged)), 0, false, Check.file(0, 96, merged));
    }

    private static void inTheirTracks() {
        CHECK.sentence("1, 2: in their tracks");
        String[] sixteen = new String[16];
        for (int i = 0; i < 16; i++) {
            sixteen[i] = i % 3 == 0 ? "" : String.format("%02X C0%02X 00 C001", 20 - i, i);
        }
        for (int from = 1; from <= 2; from++) {
            for (int to = 1; to <= 2; to++) {
                due(Check.desk(Check.file(from, 96, sixteen)), to, false, Check.file(to, 96, sixteen));
            }
        }
        for (int to = 0; to <= 2; to++) {
            due(Check.desk(Check.file(0, 96, "05 C001")), to, false, Check.file(to, 96, "05 C001"));
            due(Check.desk(Check.file(2, 96, "")), to, true, Check.file(to, 96, ""));
        }
    }

    private static void divisionAsItWas() {
        CHECK.sentence("the division as it was");
        for (int division : new int[] {1, 127, 128, 255, 256, 32767, 0xE801, 0xE7FF, 0xE380, 0xE201}) {
            for (int format = 0; format <= 2; format++) {
                due(Check.desk(Check.file(1, division, "00 C001")), format, true,
                        Check.file(format, division, "00 C001"));
            }
        }
    }

    private static void endOfDeltaZero() {
        CHECK.sentence("each track ends with an end of delta 0");
        String late = Check.head(1, 2, 96) + Check.chunk(Check.TRACK, "05 C001 FFFFFF7A FF2F 8000")
                + Check.chunk(Check.TRACK, "8100 FF2F00");
        due(Check.desk(late), 1, false, Check.file(1, 96, "05 C001", ""));
        due(Check.desk(late), 0, false, Check.file(0, 96, "05 C001"));
    }

    private static void numbersWritten() {
        CHECK.sentence("NUMBERS of one to four bytes");
        int[] first = {0, 128, 16384, 2097152};
        int[] last = {127, 16383, 2097151, Check.LAST_TICK};
        for (int bytes = 1; bytes <= 4; bytes++) {
            for (int value : new int[] {first[bytes - 1], last[bytes - 1]}) {
                String file = Check.file(0, 96, Check.number(value, bytes) + "C001");
                due(Check.desk(file), 0, true, file);
                due(Check.desk(Check.file(0, 96, Check.number(value, 4) + "C001")), 0, true, file);
            }
        }
        for (int size : new int[] {0, 1, 127, 128, 3000}) {
            for (String status : new String[] {"00 F0", "00 F7", "00 FF01"}) {
                String data = "A5".repeat(size);
                String file = Check.file(0, 96, status + Check.number(size, size < 128 ? 1 : 2) + data);
                due(Check.desk(file), 0, false, file);
                due(Check.desk(Check.file(0, 96, status + Check.number(size, 4) + data)), 0, false, file);
            }
        }
    }

    private static void chunkLengths() {
        CHECK.sentence("a length in four bytes (the highest first)");
        for (int size : new int[] {247, 248, 249, 250, 251, 252, 253, 507, 508}) {
            // The track is 8 bytes longer than its exclusive event's bytes.
            String file = Check.file(0, 96, "00 F0" + Check.number(size, 2) + "01".repeat(size));
            due(Check.desk(file), 0, false, file);
        }
    }

    private static void statusLeftOut() {
        CHECK.sentence("With brief, each status that may be left out is");
        String[][] pairs = {
            {"00 C001", "00 C001"},
            {"00 C001 00 C001", "00 C001 00 01"},
            {"00 C001 00 C101", "00 C001 00 C101"},
            {"00 903C40 05 803C40", "00 903C40 05 803C40"},
            {"00 903C40 8100 903C00 00 903C01", "00 903C40 8100 3C00 00 3C01"},
            {"00 C001 00 F000 00 C001", "00 C001 00 F000 00 C001"},
            {"00 C001 00 F700 00 C001 00 C001", "00 C001 00 F700 00 C001 00 01"},
            {"00 C001 00 FF0100 00 C001", "00 C001 00 FF0100 00 C001"},
            {"00 F000 00 F000", "00 F000 00 F000"},
            {"00 F700 00 F700", "00 F700 00 F700"},
            {"00 FF0100 00 FF0100", "00 FF0100 00 FF0100"},
            {"00 EF0000 00 EF7F7F", "00 EF0000 00 7F7F"},
            {"00 800000 00 800000", "00 800000 00 0000"}};
        for (String[] pair : pairs) {
            for (int format = 0; format <= 2; format++) {
                for (int from = 0; from < 2; from++) {
                    MidiDesk desk = Check.desk(Check.file(0, 96, pair[from]));
                    due(desk, format, false, Check.file(format, 96, pair[0]));
                    due(desk, format, true, Check.file(format, 96, pair[1]));
                }
            }
        }
        MidiDesk two = Check.desk(Check.file(1, 96, "00 C001", "00 C002"));
        due(two, 1, true, Check.file(1, 96, "00 C001", "00 C002"));
        due(two, 0, true, Check.file(0, 96, "00 C001 00 02"));
        MidiDesk mixed = Check.desk(Check.file(1, 96, "00 C001 02 C001", "01 C102"));
        due(mixed, 1, true, Check.file(1, 96, "00 C001 02 01", "01 C102"));
        due(mixed, 0, true, Check.file(0, 96, "00 C001 01 C102 01 C001"));
    }

    private static void writtenBytes() {
        CHECK.sentence("Byte i of what was written latest; NONE when there is none");
        MidiDesk desk = Check.desk(Check.file(0, 96, "00 F00180"));
        for (int i : new int[] {-1, 0, 1}) {
            CHECK.due("written(" + i + ") of nothing", desk.written(i), -1);
        }
        int size = desk.write(0, false);
        CHECK.due("size", size, 30);
        CHECK.due("written(-1)", desk.written(-1), -1);
        CHECK.due("written(0)", desk.written(0), 0x4D);
        CHECK.due("written(25)", desk.written(25), 0x80);
        CHECK.due("written(27)", desk.written(27), 0xFF);
        CHECK.due("written(29)", desk.written(29), 0);
        CHECK.due("written(30)", desk.written(30), -1);
        for (int i : FAR) {
            CHECK.due("written(" + i + ")", desk.written(i), -1);
        }
    }

    private static void latestWritten() {
        CHECK.sentence("what was written latest");
        MidiDesk desk = Check.desk(Check.file(1, 96, "00 C001", "00 C002"));
        String long1 = Check.plain(Check.file(1, 96, "00 C001", "00 C002"));
        String short0 = Check.plain(Check.file(0, 96, "00 C001 00 02"));
        due(desk, 1, false, long1);
        due(desk, 0, true, short0);
        CHECK.due("behind the shorter one", desk.written(short0.length() / 2), -1);
        due(desk, 1, false, long1);
        Check.thrown(() -> desk.write(3, false));
        CHECK.due("a refused write", Check.written(desk), long1);
        desk.clear(0);
        desk.transpose(16, 1);
        desk.grid(7);
        CHECK.due("a changed list", Check.written(desk), long1);
        desk.feed(5, 1);
        desk.read();
        CHECK.due("no list", Check.written(desk), long1);
        Check.thrown(() -> desk.write(0, false));
        CHECK.due("a refused write without a list", Check.written(desk), long1);
        CHECK.due("back() without a list", desk.back(), long1.length() / 2);
        CHECK.due("read()", desk.read(), 0);
        CHECK.due("count(1)", desk.count(1), 2);
    }

    private static void backOfNothing() {
        CHECK.sentence("NONE, changing nothing, when nothing was written");
        MidiDesk desk = new MidiDesk();
        CHECK.due("back()", desk.back(), -1);
        CHECK.due("count(0)", desk.count(0), 0);
        Check.feed(desk, Check.bytes(Check.file(0, 96, "00 C001")));
        CHECK.due("back() with an input", desk.back(), -1);
        CHECK.due("count(0)", desk.count(0), 29);
        CHECK.due("read()", desk.read(), 0);
        CHECK.due("back() with a list", desk.back(), -1);
        CHECK.due("count(1)", desk.count(1), 1);
    }

    private static void backReplacesInput() {
        CHECK.sentence("The input becomes what was written latest: how many bytes");
        MidiDesk desk = Check.desk(Check.file(1, 96, "00 C001", ""));
        desk.write(0, false);
        Check.feed(desk, Check.bytes("00".repeat(200)));
        CHECK.due("back() over a longer input", desk.back(), 29);
        CHECK.due("count(0)", desk.count(0), 29);
        CHECK.due("back() over itself", desk.back(), 29);
        CHECK.due("the list stays", desk.count(3), 2);
        CHECK.due("what was written stays", desk.count(8), 29);
        CHECK.due("feed behind it", desk.feed(0x4142434400000000L, 8), 37);
        CHECK.due("read()", desk.read(), 0);
        CHECK.due("count(3)", desk.count(3), 1);
        CHECK.due("count(2)", desk.count(2), 0);
        CHECK.due("back() once more", desk.back(), 29);
    }

    private static void countOfNoList() {
        CHECK.sentence("1 (0 without), 5 (0 without events), 8 (0 without); 2 .. 4, 9 NONE without a list");
        MidiDesk desk = new MidiDesk();
        int[] counts = {0, 0, -1, -1, -1, 0, 0, 0, 0, -1};
        for (int round = 0; round < 2; round++) {
            for (int what = 0; what < counts.length; what++) {
                CHECK.due("count(" + what + ")", desk.count(what), counts[what]);
            }
            Check.read(desk, Check.file(1, 96, "00 903C40 05 FF5103000001"));
            CHECK.due("count(3)", desk.count(3), 1);
            desk.read();
        }
    }

    private static void countArguments() {
        CHECK.sentence("NONE for others");
        MidiDesk none = new MidiDesk();
        MidiDesk desk = Check.desk(Check.file(1, 96, "00 903C40"));
        for (int what : new int[] {-1, 10, 11}) {
            CHECK.due("count(" + what + ") without a list", none.count(what), -1);
            CHECK.due("count(" + what + ")", desk.count(what), -1);
        }
        for (int what : FAR) {
            CHECK.due("count(" + what + ") without a list", none.count(what), -1);
            CHECK.due("count(" + what + ")", desk.count(what), -1);
        }
        CHECK.due("count(0)", desk.count(0), 0);
        CHECK.due("count(9)", desk.count(9), 96);
    }

    private static void greatestTick() {
        CHECK.sentence("5 the greatest tick (0 without events)");
        CHECK.due("no events", Check.desk(Check.head(0, 1, 96)
                + Check.chunk(Check.TRACK, "8100 FF2F00")).count(5), 0);
        CHECK.due("tick 0", Check.desk(Check.file(0, 96, "00 C001")).count(5), 0);
        CHECK.due("tick 1", Check.desk(Check.file(0, 96, "01 C001")).count(5), 1);
        CHECK.due("the last tick", Check.desk(Check.file(1, 96, "FFFFFF7F C001", "01 C001")).count(5),
                Check.LAST_TICK);
        MidiDesk desk = Check.desk(Check.file(1, 96, "07 C001", "09 C001"));
        CHECK.due("of two tracks", desk.count(5), 9);
        desk.clear(1);
        CHECK.due("one has gone", desk.count(5), 7);
        desk.grid(5);
        CHECK.due("on a grid", desk.count(5), 5);
        desk.clear(0);
        CHECK.due("both have gone", desk.count(5), 0);
    }

    private static void countsOfKinds() {
        CHECK.sentence("6 tempo events, 7 notes that begin");
        MidiDesk desk = Check.desk(Check.file(1, 96,
                "00 FF5003000001 00 FF5103000001 00 FF5203000001 00 F051" + "00".repeat(0x51),
                "00 FF5103FFFFFF 00 8F0101 00 900100 00 900101 00 9F017F 00 A00101 00 B05103 00 C051"));
        CHECK.due("count(1)", desk.count(1), 12);
        CHECK.due("count(6)", desk.count(6), 2);
        CHECK.due("count(7)", desk.count(7), 2);
        desk.clear(1);
        CHECK.due("count(6)", desk.count(6), 1);
        CHECK.due("count(7)", desk.count(7), 0);
    }

    /** Calls without a throws clause answer to every argument, with a list and without one. */
    private static void nothingElseThrows() {
        CHECK.sentence("The public face: what each method may throw");
        int[] edges = {0, 1, -1, 2, 5, 6, 8, 9, 10, 63, 64, 65, 999, 1000, 1001, 11999, 12000, 12001,
            16383, 16384, 1 << 28, Integer.MIN_VALUE, Integer.MAX_VALUE};
        MidiDesk[] desks = {new MidiDesk(), Check.desk(Check.file(0, 96, "")),
            Check.desk(Check.file(1, 96, "00 903C40 05 F003010203", "00 FF5103000001"))};
        for (MidiDesk desk : desks) {
            for (int a : edges) {
                dueAnswer("length(" + a + ")", () -> desk.length(a));
                dueAnswer("written(" + a + ")", () -> desk.written(a));
                dueAnswer("count(" + a + ")", () -> desk.count(a));
                dueAnswer("feed(" + a + ")", () -> desk.feed(a, a));
                for (int b : edges) {
                    dueAnswer("event(" + a + ", " + b + ")", () -> desk.event(a, b));
                    dueAnswer("byteOf(" + a + ", " + b + ")", () -> desk.byteOf(a, b));
                }
            }
            dueAnswer("back()", () -> desk.back());
            dueAnswer("read()", () -> desk.read());
        }
    }

    private static void dueAnswer(String call, Check.Call c) {
        CHECK.due(call + " answers", Check.thrown(c).startsWith("answer ") ? 1 : 0, 1);
    }
}
