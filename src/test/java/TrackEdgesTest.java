/** "Terms", a sentence at a time: the edges of numbers, ticks, statuses and events in a track. */
public final class TrackEdgesTest {
    private static final Check CHECK = new Check("track edges");
    /** The first and the last number of each count of bytes. */
    private static final int[] NUMBERS = {0, 127, 128, 16383, 16384, 2097151, 2097152, Check.LAST_TICK};

    public static void main(String[] args) {
        chunkEndsEarly();
        deltas();
        lengths();
        numbersThatGoOn();
        lastTick();
        ticksOfEachTrack();
        statusLeftOut();
        statusThatCannotBe();
        bytesBelow128();
        oneByteOrTwo();
        exclusive();
        kinds();
        endsOfTracks();
        endsWithBytes();
        tempoSizes();
        tempoOfZero();
        firstOfTwo();
        CHECK.close();
    }

    private static void chunkEndsEarly() {
        CHECK.sentence("1 a byte that is missing, where a chunk ends too early (at that end)");
        String[] bodies = {"00 903C40", "8100 C005", "00 E00102 00 0304", "00 F0 02 0102",
            "FFFFFF7F F7 8001 01", "00 FF 01 02 0102", "00 FF 51 03 000001", "00 FF 2F 00"};
        for (String body : bodies) {
            int size = Check.bytes(body).length;
            for (int cut = 0; cut < size; cut++) {
                String part = Check.plain(body).substring(0, 2 * cut);
                CHECK.dueTrack(body + " cut at " + cut, part, 1, cut);
                CHECK.dueRead(body + " cut at " + cut + " ahead of another", Check.head(1, 2, 96)
                        + Check.chunk(Check.TRACK, part) + Check.track("00 903C40"), 1, 22 + cut);
            }
        }
        CHECK.dueTrack("no end behind an event", "00 903C40", 1, 4);
        CHECK.dueTrack("one byte of two in the chunk", "00 F0 02 01", 1, 4);
        CHECK.dueTrack("no byte of the most in the chunk", "00 F0 FFFFFF7F", 1, 6);
    }

    private static void deltas() {
        CHECK.sentence("NUMBERS of one to four bytes: seven bits in each, the highest first");
        for (int value : NUMBERS) {
            for (int bytes = 1; bytes <= 4; bytes++) {
                if (value >> (7 * bytes) == 0) {
                    String delta = Check.number(value, bytes);
                    MidiDesk desk = Check.desk(Check.file(0, 96, delta + "C001"));
                    CHECK.due("tick of " + delta, desk.event(0, 0), value);
                    CHECK.dueTrack("end behind " + delta, delta + "FF2F00", 0, 0);
                }
            }
        }
        MidiDesk desk = Check.desk(Check.file(0, 96, "81828304 C001"));
        CHECK.due("tick of 81828304", desk.event(0, 0), (1 << 21) + (2 << 14) + (3 << 7) + 4);
    }

    private static void lengths() {
        CHECK.sentence("a number, so many bytes");
        for (int size : new int[] {0, 1, 127, 128, 129, 3000}) {
            for (int bytes = size < 128 ? 1 : 2; bytes <= 4; bytes++) {
                for (String status : new String[] {"F0", "F7", "FF05"}) {
                    String number = status + Check.number(size, bytes);
                    String body = "00" + number + "81".repeat(size);
                    MidiDesk desk = Check.desk(Check.file(0, 96, body + "07 C001"));
                    CHECK.due(number, desk.event(0, 5), size);
                    CHECK.due(number + ", last byte", desk.byteOf(0, size - 1), size > 0 ? 0x81 : -1);
                    CHECK.due(number + ", one behind", desk.byteOf(0, size), -1);
                    CHECK.due(number + ", next event", Check.event(desk, 1), "[7, 0, 192, 1, -1, -1]");
                }
            }
        }
    }

    private static void numbersThatGoOn() {
        CHECK.sentence("4 a number of four bytes that goes on (at its first byte)");
        String[] ahead = {"", "00 903C40", "00 F0", "00 F7", "00 FF 05", "00 FF 2F", "00 FF 51"};
        for (String part : ahead) {
            int at = Check.bytes(part).length;
            CHECK.dueTrack(part + " five bytes", part + "8080808000" + Check.END, 4, at);
            CHECK.dueTrack(part + " five bytes of all bits", part + "FFFFFFFF7F" + Check.END, 4, at);
            CHECK.dueTrack(part + " four and no more", part + "80808080", 4, at);
            CHECK.dueTrack(part + " three and no more", part + "808080", 1, at + 3);
        }
        CHECK.dueTrack("the fourth does not go on", "80808000 F0 80808000 80808000 FF2F 80808000", 0, 0);
    }

    private static void lastTick() {
        CHECK.sentence("11 a tick above 2^28 - 1 (at the delta)");
        CHECK.dueTrack("at once", "FFFFFF7F C001 00 01 " + Check.END, 0, 0);
        CHECK.dueTrack("in two steps", "FFFFFF7E C001 01 01 " + Check.END, 0, 0);
        CHECK.dueTrack("one above in two steps", "FFFFFF7E C001 02 01 " + Check.END, 11, 6);
        CHECK.dueTrack("one above", "FFFFFF7F C001 01 01 " + Check.END, 11, 6);
        CHECK.dueTrack("one above in a long form", "FFFFFF7F C001 80808001 01 " + Check.END, 11, 6);
        CHECK.dueTrack("one above, nothing behind", "FFFFFF7F C001 01", 11, 6);
        CHECK.dueTrack("most above", "FFFFFF7F C001 FFFFFF7F C001", 11, 6);
        CHECK.dueTrack("the end at the last tick", "FFFFFF7E C001 01 FF2F00", 0, 0);
        CHECK.dueTrack("the end one above", "FFFFFF7E C001 02 FF2F00", 11, 6);
        CHECK.dueTrack("halves", "C0808000 C001 BFFFFF7F 01 " + Check.END, 0, 0);
        CHECK.dueTrack("halves and one", "C0808000 C001 C0808000 01 " + Check.END, 11, 6);
    }

    private static void ticksOfEachTrack() {
        CHECK.sentence("An event's TICK is the sum of deltas up to it in its track");
        MidiDesk desk = Check.desk(Check.file(1, 96, "FFFFFF7F C001", "01 C002 00 C003 7F C004"));
        CHECK.due("ticks", Check.column(desk, 0), "1 1 128 " + Check.LAST_TICK + " ");
        MidiDesk more = Check.desk(Check.head(1, 2, 96) + Check.chunk(Check.TRACK, "7F FF2F00")
                + Check.track("05 C001"));
        CHECK.due("behind a late end", more.event(0, 0), 5);
        MidiDesk meta = Check.desk(Check.file(0, 96, "01 F000 02 F700 04 FF0500 08 FF5103000001 10 C001"));
        CHECK.due("ticks of all kinds", Check.column(meta, 0), "1 3 7 15 31 ");
    }

    private static void statusLeftOut() {
        CHECK.sentence("5 a status that is left out and may not be (at it)");
        for (String low : new String[] {"00", "3C", "7F"}) {
            CHECK.dueTrack("at first " + low, "00 " + low + " 40 " + Check.END, 5, 1);
            for (String other : new String[] {"F000", "F700", "F7013C", "FF0500", "FF5103000001"}) {
                String body = "00 903C40 8100 " + other + " 00 ";
                int at = Check.bytes(body).length;
                CHECK.dueTrack("behind " + other, body + low + " 40 " + Check.END, 5, at);
                CHECK.dueTrack("not left out", body + "90" + low + " 40 " + Check.END, 0, 0);
            }
            CHECK.dueRead("at first of the second track " + low, Check.file(1, 96, "00 903C40",
                    "00 " + low + "40"), 5, 22 + 8 + 8 + 1);
        }
        CHECK.sentence("the status may be left out, if it is the one of the event ahead of it");
        MidiDesk desk = Check.desk(Check.file(0, 96, "00 903C40 00 3D41 00 C205 00 06 00 7F 00 E50001 00 0002"));
        CHECK.due("statuses", Check.column(desk, 2), "144 144 194 194 194 229 229 ");
        CHECK.due("first bytes", Check.column(desk, 3), "60 61 5 6 127 0 0 ");
    }

    private static void statusThatCannotBe() {
        CHECK.sentence("5 0xF1 .. 0xF6, 0xF8 .. 0xFE (at it)");
        for (int status = 0x80; status <= 0xFF; status++) {
            boolean good = status <= 0xF0 || status == 0xF7 || status == 0xFF;
            String rest = status < 0xF0 && (status < 0xC0 || status > 0xDF) ? "0102"
                    : status < 0xF0 ? "01" : status == 0xFF ? "0500" : "00";
            String hex = String.format("%02X", status);
            CHECK.dueTrack("status " + hex, "00" + hex + rest + Check.END, good ? 0 : 5, 1);
            CHECK.dueTrack("status " + hex + " behind an event",
                    "00 903C40 8000" + hex + rest + Check.END, good ? 0 : 5, 6);
            if (!good) {
                CHECK.dueTrack("status " + hex + " and no more", "00" + hex, 5, 1);
            }
        }
    }

    private static void bytesBelow128() {
        CHECK.sentence("6 a byte that must be below 128 (at it)");
        for (int status = 0x80; status < 0xF0; status++) {
            boolean one = status >= 0xC0 && status <= 0xDF;
            String hex = String.format("00 %02X ", status);
            CHECK.dueTrack(hex + " of 127", hex + (one ? "7F" : "7F7F") + Check.END, 0, 0);
            for (String high : new String[] {"80", "FF"}) {
                CHECK.dueTrack(hex + " first", hex + high, 6, 2);
                if (!one) {
                    CHECK.dueTrack(hex + " second", hex + "00" + high, 6, 3);
                    CHECK.dueTrack(hex + " left out, second", hex + "0000 00 00" + high, 6, 6);
                }
            }
        }
        CHECK.dueTrack("kind 127", "00 FF7F00" + Check.END, 0, 0);
        CHECK.dueTrack("kind 128", "00 FF8000" + Check.END, 6, 2);
        CHECK.dueTrack("kind 255", "00 FFFF00" + Check.END, 6, 2);
    }

    private static void oneByteOrTwo() {
        CHECK.sentence("CHANNEL events, two bytes below 128 (0xC0 .. 0xDF: one)");
        int[] statuses = {0x80, 0x8F, 0x90, 0xAF, 0xB0, 0xBF, 0xC0, 0xCF, 0xD0, 0xDF, 0xE0, 0xEF};
        for (int status : statuses) {
            boolean one = status >= 0xC0 && status <= 0xDF;
            String bytes = one ? "7F" : "7F00";
            MidiDesk desk = Check.desk(Check.file(0, 96,
                    String.format("00 %02X ", status) + bytes + "09" + bytes));
            String rest = ", 127, " + (one ? -1 : 0) + ", -1]";
            CHECK.due("events", desk.count(1), 2);
            CHECK.due("event 0", Check.event(desk, 0), "[0, 0, " + status + rest);
            CHECK.due("event 1", Check.event(desk, 1), "[9, 0, " + status + rest);
        }
    }

    private static void exclusive() {
        CHECK.sentence("0xF0, 0xF7: a number, so many bytes");
        MidiDesk desk = Check.desk(Check.file(0, 96, "00 F000 00 F700 00 F0012F 00 F0042F00FFFF 00 F70151"));
        CHECK.due("sizes", Check.column(desk, 5), "0 0 1 4 1 ");
        CHECK.due("no kinds", Check.column(desk, 3), "-1 -1 -1 -1 -1 ");
        CHECK.due("no tempos", desk.count(6), 0);
        CHECK.due("a high byte", desk.byteOf(3, 3), 255);
    }

    private static void kinds() {
        CHECK.sentence("0xFF: META: a byte below 128, its KIND, a number, so many bytes");
        for (int kind = 0; kind < 128; kind++) {
            if (kind == 0x2F || kind == 0x51) {
                continue;
            }
            String hex = String.format("00 FF %02X ", kind);
            MidiDesk desk = Check.desk(Check.file(0, 96, hex + "00" + hex + "02 0000" + hex + "03 000000"));
            CHECK.due("sizes of kind " + kind, Check.column(desk, 5), "0 2 3 ");
            CHECK.due("kind " + kind, desk.event(1, 3), kind);
            CHECK.due("tempos of kind " + kind, desk.count(6), 0);
        }
    }

    private static void endsOfTracks() {
        CHECK.sentence("7 an end of a track that is not at the end of its chunk (at the first byte behind it)");
        CHECK.dueTrack("at the end", "00 FF2F00", 0, 0);
        CHECK.dueTrack("at the end, in a long form", "80808000 FF2F 80808000", 0, 0);
        CHECK.dueTrack("a byte behind", "00 FF2F00 00", 7, 4);
        CHECK.dueTrack("a byte behind a long form", "80808000 FF2F 80808000 00", 7, 10);
        CHECK.dueTrack("two ends", "00 FF2F00 00 FF2F00", 7, 4);
        CHECK.dueTrack("an event behind", "00 C001 00 FF2F00 00 C001", 7, 7);
        CHECK.dueRead("a byte behind, in the first of two tracks", Check.head(1, 2, 96)
                + Check.chunk(Check.TRACK, Check.END + "00") + Check.track(""), 7, 26);
        CHECK.sentence("Kind 0x2F is the track's last event");
        CHECK.dueTrack("none", "00 C001", 1, 3);
        CHECK.dueRead("none in the first of two tracks", Check.head(1, 2, 96)
                + Check.chunk(Check.TRACK, "00 C001") + Check.track(""), 1, 25);
    }

    private static void endsWithBytes() {
        CHECK.sentence("7 an end of a track that has bytes (at its number)");
        CHECK.dueTrack("one", "00 FF2F01 00", 7, 3);
        CHECK.dueTrack("one, which is missing", "00 FF2F01", 7, 3);
        CHECK.dueTrack("one in a long form", "8100 FF2F 80808001 00", 7, 4);
        CHECK.dueTrack("128", "00 FF2F8100", 7, 3);
        CHECK.dueTrack("most", "00 FF2FFFFFFF7F", 7, 3);
        CHECK.dueTrack("one, and bytes behind", "00 FF2F01 00 " + Check.END, 7, 3);
    }

    private static void tempoSizes() {
        CHECK.sentence("8 a tempo of other than three bytes (at its number)");
        for (int size : new int[] {0, 1, 2, 4, 5, 127}) {
            String body = "00 FF51" + Check.number(size, 1) + "01".repeat(size);
            CHECK.dueTrack("tempo of " + size, body + Check.END, 8, 3);
            CHECK.dueTrack("tempo of " + size + ", no byte there", "00 FF51" + Check.number(size, 1), 8, 3);
        }
        CHECK.dueTrack("tempo of 128 and 3", "00 FF518103 010101", 8, 3);
        CHECK.dueTrack("tempo of three", "00 FF5103 010101" + Check.END, 0, 0);
        CHECK.dueTrack("tempo of three in a long form", "00 FF51 80808003 010101" + Check.END, 0, 0);
        CHECK.dueTrack("tempo of three, two there", "00 FF5103 0000", 1, 6);
    }

    private static void tempoOfZero() {
        CHECK.sentence("8 a tempo of 0 (at its first byte)");
        CHECK.dueTrack("0", "00 FF5103 000000" + Check.END, 8, 4);
        CHECK.dueTrack("0, its number in a long form", "00 FF518003 000000" + Check.END, 8, 5);
        for (String tempo : new String[] {"000001", "000080", "000100", "008000", "010000", "800000",
            "FFFFFF"}) {
            CHECK.dueTrack(tempo, "00 FF5103 " + tempo + Check.END, 0, 0);
            MidiDesk desk = Check.desk(Check.file(0, 1, "00 FF5103 " + tempo));
            CHECK.due("time of " + tempo, desk.time(1), Integer.parseInt(tempo, 16));
        }
    }

    private static void firstOfTwo() {
        CHECK.sentence("FAULTS of a file: the first one, as it is read from its beginning on");
        CHECK.dueTrack("a number ahead of a status", "80808080 F4", 4, 0);
        CHECK.dueTrack("a tick ahead of a status", "FFFFFF7F C001 01 F4", 11, 6);
        CHECK.dueTrack("a status ahead of a byte", "00 F4 80", 5, 1);
        CHECK.dueTrack("a kind ahead of a number", "00 FF80 80808080", 6, 2);
        CHECK.dueTrack("a first byte ahead of a second", "00 90 80 80", 6, 2);
        CHECK.dueTrack("a high byte ahead of one that is missing", "00 90 80", 6, 2);
        CHECK.dueTrack("a tempo's size ahead of bytes that are missing", "00 FF5104 00", 8, 3);
        CHECK.dueTrack("an end's bytes ahead of what is behind", "00 FF2F01 00 00", 7, 3);
        CHECK.dueTrack("a high byte ahead of a wrong end", "00 9080 00 FF2F01", 6, 2);
    }
}
