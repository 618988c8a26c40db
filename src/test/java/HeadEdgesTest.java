/** "Terms", a sentence at a time: the edges of the file, its chunks, its head and its tracks' number. */
public final class HeadEdgesTest {
    private static final Check CHECK = new Check("head edges");
    private static final String ONE = Check.file(1, 96, "");
    private static final int ONE_SIZE = Check.bytes(ONE).length;

    public static void main(String[] args) {
        fileToItsEnd();
        chunkLengths();
        wrappedLengths();
        lettersAsOne();
        headLength();
        formats();
        trackNumbers();
        divisions();
        halvesMissing();
        firstOfTwo();
        otherLetters();
        tooManyTracks();
        tooFewTracks();
        CHECK.close();
    }

    private static void fileToItsEnd() {
        CHECK.sentence("A FILE is a HEAD, then CHUNKS to the end");
        CHECK.dueRead("empty", "", 1, 0);
        for (int size = 1; size < 14; size++) {
            CHECK.dueRead("head of " + size, ONE.replace(" ", "").substring(0, 2 * size), 1, size);
        }
        CHECK.dueRead("a head alone", Check.head(1, 1, 96), 10, 14);
        CHECK.dueRead("head and track", ONE, 0, 0);
        for (int more = 1; more < 8; more++) {
            CHECK.dueRead(more + " bytes behind", ONE + "00".repeat(more), 1, ONE_SIZE + more);
        }
        CHECK.dueRead("an empty chunk behind", ONE + "00".repeat(8), 0, 0);
        CHECK.dueRead("an empty chunk and a byte", ONE + "00".repeat(9), 1, ONE_SIZE + 9);
    }

    private static void chunkLengths() {
        CHECK.sentence("A chunk: four bytes of letters, a length in four bytes, so many bytes");
        for (int length : new int[] {0, 1, 2, 255, 256, 257, 3000}) {
            String letters = "41424344 " + String.format("%08X", length);
            String head = Check.head(1, 1, 96) + letters + "5A".repeat(length);
            int size = 14 + 8 + length;
            CHECK.dueRead("a chunk of " + length, head + Check.track(""), 0, 0);
            CHECK.dueRead("a chunk of " + length + ", no track", head, 10, size);
            if (length > 0) {
                CHECK.dueRead("a chunk of " + length + ", one missing",
                        Check.plain(head).substring(0, 2 * size - 2), 1, size - 1);
            }
        }
        // One too short, so that its last byte is taken for a letter and a letter for a length.
        CHECK.dueRead("one too short", Check.head(1, 1, 96) + "41424344 00000001 5A5A"
                + Check.track(""), 1, 14 + 8 + 2 + 12);
        String note = "00 C001";
        CHECK.dueRead("a track of 256 bytes", Check.file(0, 96, note.repeat(84)), 0, 0);
        CHECK.dueRead("a track of 259 bytes", Check.file(0, 96, note.repeat(85)), 0, 0);
        CHECK.dueRead("an empty track", Check.head(1, 1, 96) + Check.TRACK + "00000000", 1, 22);
        CHECK.dueRead("an empty track, one behind",
                Check.head(1, 2, 96) + Check.TRACK + "00000000" + Check.track(""), 1, 22);
    }

    private static void wrappedLengths() {
        CHECK.sentence("of a chunk that is longer than the file behind its length, at the file's end");
        // FFFFFFEA lies 22 below 2^32, so that place and length are 0 in 32 bits.
        String[] lengths = {"00000005", "00000104", "00010004", "01000004", "7FFFFFFF", "7FFFFFEA",
            "80000000", "80000004", "FFFFFFEA", "FFFFFFEE", "FFFFFFFC", "FFFFFFFF"};
        for (String letters : new String[] {Check.TRACK, "41424344"}) {
            for (String length : lengths) {
                CHECK.dueRead(letters + " of " + length,
                        Check.head(1, 1, 96) + letters + length + Check.END, 1, 26);
            }
        }
        CHECK.dueRead("as long as the file", Check.head(1, 1, 96) + Check.TRACK + "00000004"
                + Check.END, 0, 0);
        CHECK.dueRead("nothing behind the length", Check.head(1, 1, 96) + "41424344 00000001", 1, 22);
        CHECK.dueRead("a second one", Check.head(1, 2, 96) + Check.track("") + Check.TRACK
                + "00000005" + Check.END, 1, 38);
    }

    private static void lettersAsOne() {
        CHECK.sentence("2 letters that are not MThd ahead of all (at 0)");
        for (int letter = 0; letter < 4; letter++) {
            for (int bit = 0; bit < 8; bit++) {
                int[] row = {0x4D, 0x54, 0x68, 0x64};
                row[letter] ^= 1 << bit;
                String letters = String.format("%02X%02X%02X%02X", row[0], row[1], row[2], row[3]);
                CHECK.dueRead(letters, letters, 2, 0);
                CHECK.dueRead(letters + " and all", letters + Check.plain(ONE).substring(8), 2, 0);
            }
        }
        CHECK.sentence("each number, four letters and length as one");
        for (int size = 1; size < 4; size++) {
            CHECK.dueRead(size + " wrong letters", "00".repeat(size), 1, size);
            CHECK.dueRead(size + " bytes of a wrong length", "4D546864" + "FF".repeat(size), 1, 4 + size);
            CHECK.dueRead(size + " letters of one too many", ONE + "4D5472".substring(0, 2 * size), 1,
                    ONE_SIZE + size);
        }
        CHECK.dueRead("4 wrong letters", "00000000", 2, 0);
        CHECK.dueRead("4 bytes of a wrong length", "4D546864 FFFFFFFF", 2, 4);
        CHECK.dueRead("4 letters of one too many", ONE + "4D54726B", 10, ONE_SIZE);
    }

    private static void headLength() {
        CHECK.sentence("a head's length (at its first byte) that is not 6");
        String rest = Check.plain(ONE).substring(16);
        for (String length : new String[] {"00000000", "00000005", "00000007", "00000106", "00010006",
            "01000006", "80000006", "FFFFFFFF"}) {
            CHECK.dueRead("length " + length, "4D546864" + length, 2, 4);
            CHECK.dueRead("length " + length + " and all", "4D546864" + length + rest, 2, 4);
        }
        CHECK.dueRead("length 6", "4D546864 00000006" + rest, 0, 0);
    }

    private static void dueHead(String head, boolean good, int kindBehind, int at) {
        MidiDesk desk = new MidiDesk();
        CHECK.due(head, Check.read(desk, Check.HEAD + head),
                good ? kindBehind + 16 * (at + 2) : 3 + 16 * at);
    }

    private static void formats() {
        CHECK.sentence("FORMAT 0 (one track), 1 or 2");
        for (int format = 0; format < 65536; format++) {
            dueHead(String.format("%04X", format), format <= 2, 1, 8);
        }
    }

    private static void trackNumbers() {
        CHECK.sentence("tracks 1 .. 16; FORMAT 0 (one track)");
        for (int format = 0; format <= 2; format++) {
            for (int tracks = 0; tracks < 65536; tracks++) {
                boolean good = format == 0 ? tracks == 1 : tracks >= 1 && tracks <= 16;
                dueHead(String.format("%04X%04X", format, tracks), good, 1, 10);
            }
        }
    }

    private static void divisions() {
        CHECK.sentence("Division: 1 .. 32767; or 24, 25, 29 or 30 frames, 1 .. 255 ticks");
        for (int division = 0; division < 65536; division++) {
            int high = division >> 8;
            boolean frames = high == 0xE8 || high == 0xE7 || high == 0xE3 || high == 0xE2;
            boolean good = frames ? (division & 255) != 0 : division >= 1 && division <= 32767;
            dueHead(String.format("00010001%04X", division), good, 10, 12);
        }
    }

    private static void halvesMissing() {
        CHECK.sentence("1 a byte that is missing, where the file ends too early");
        CHECK.dueRead("half a format", Check.HEAD + "FF", 1, 9);
        CHECK.dueRead("half a number of tracks", Check.HEAD + "0001 FF", 1, 11);
        CHECK.dueRead("half a division", Check.HEAD + "0001 0001 FF", 1, 13);
    }

    private static void firstOfTwo() {
        CHECK.sentence("FAULTS of a file: the first one, as it is read from its beginning on");
        CHECK.dueRead("letters and length", "4D546865 00000007", 2, 0);
        CHECK.dueRead("length and format", "4D546864 00000007 0003", 2, 4);
        CHECK.dueRead("format and tracks", Check.HEAD + "0003 0000 0000", 3, 8);
        CHECK.dueRead("tracks and division", Check.HEAD + "0001 0011 0000", 3, 10);
        CHECK.dueRead("division and no track", Check.HEAD + "0001 0001 0000", 3, 12);
        CHECK.dueRead("a track with a fault and one too few", Check.head(1, 2, 96)
                + Check.chunk(Check.TRACK, "00 F4"), 5, 23);
        CHECK.dueRead("one too many with a fault", Check.head(1, 1, 96) + Check.track("")
                + Check.chunk(Check.TRACK, "00 F4"), 10, 26);
        CHECK.dueRead("one too many that is too long", Check.head(1, 1, 96) + Check.track("")
                + Check.TRACK + "FFFFFFFF", 10, 26);
        CHECK.dueRead("one too many without a length", Check.head(1, 1, 96) + Check.track("")
                + Check.TRACK + "0000", 10, 26);
        CHECK.dueRead("two tracks with faults", Check.head(1, 2, 96)
                + Check.chunk(Check.TRACK, "00 9080") + Check.chunk(Check.TRACK, "00 F4"), 6, 24);
    }

    private static void otherLetters() {
        CHECK.sentence("Chunks with letters MTrk are tracks, others are passed over");
        for (int letter = 0; letter < 4; letter++) {
            for (int bit = 0; bit < 8; bit++) {
                int[] row = {0x4D, 0x54, 0x72, 0x6B};
                row[letter] ^= 1 << bit;
                String letters = String.format("%02X%02X%02X%02X", row[0], row[1], row[2], row[3]);
                String other = Check.chunk(letters, "00 F4 FF 80 80 80 80");
                CHECK.dueRead(letters + " alone", Check.head(1, 1, 96) + other, 10, 14 + 15);
                CHECK.dueRead(letters + " ahead", Check.head(1, 1, 96) + other + Check.track(""), 0, 0);
                CHECK.dueRead(letters + " behind", ONE + other, 0, 0);
            }
        }
        MidiDesk desk = Check.desk(Check.head(2, 2, 96) + Check.chunk("4D546864", "0001")
                + Check.track("00 C001") + Check.chunk("4D546864", "") + Check.track("00 C002"));
        CHECK.due("a head's letters once more, format", desk.count(2), 2);
        CHECK.due("tracks are numbered without the others", Check.column(desk, 1), "0 1 ");
    }

    private static String tracks(int format, int said, int there) {
        return Check.head(format, said, 96) + Check.track("").repeat(there);
    }

    private static void tooManyTracks() {
        CHECK.sentence("10 tracks more than the head says (at the letters of the one too many)");
        for (int said : new int[] {1, 2, 15, 16}) {
            CHECK.dueRead(said + " as said", tracks(1, said, said), 0, 0);
            CHECK.dueRead(said + " and one", tracks(1, said, said + 1), 10, 14 + 12 * said);
            CHECK.dueRead(said + " and two", tracks(2, said, said + 2), 10, 14 + 12 * said);
        }
        CHECK.dueRead("format 0 and one", tracks(0, 1, 2), 10, 26);
        CHECK.dueRead("one too many behind another chunk", ONE + Check.chunk("41424344", "00")
                + Check.track(""), 10, ONE_SIZE + 9);
    }

    private static void tooFewTracks() {
        CHECK.sentence("10 tracks fewer than the head says (at the file's end)");
        for (int said : new int[] {1, 2, 15, 16}) {
            CHECK.dueRead(said + " without one", tracks(1, said, said - 1), 10, 14 + 12 * (said - 1));
            CHECK.dueRead(said + " without all", tracks(2, said, 0), 10, 14);
        }
        CHECK.dueRead("format 0 without", tracks(0, 1, 0), 10, 14);
        CHECK.dueRead("another chunk is none", Check.head(1, 2, 96) + Check.track("")
                + Check.chunk("41424344", "00FF2F00"), 10, 38);
    }
}
