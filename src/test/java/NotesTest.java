/** Promises 8 and 9: length and transpose. */
public final class NotesTest {
    private static final Check CHECK = new Check("notes");

    public static void main(String[] args) {
        lengths();
        lengthsAmongOthers();
        transposed();
        limits();
        wrongChannels();
        CHECK.close();
    }

    private static void lengths() {
        MidiDesk desk = Check.desk(Check.file(0, 96,
                "00 903C40 05 803C40 01 903D01 02 3D00 01 3E40 01 3E40 01 3E00 00 903F00 01 A03F01 01 C03F 01 FF0100 01 903F01"));
        int[] due = {5, -1, 2, -1, 2, 1, -1, -1, -1, -1, -1, -1, -1};
        for (int k = -1; k < due.length; k++) {
            CHECK.due("length(" + k + ")", desk.length(k), k < 0 ? -1 : due[k]);
        }
        CHECK.due("length(most)", desk.length(Integer.MAX_VALUE), -1);
        CHECK.due("length(least)", desk.length(Integer.MIN_VALUE), -1);
        MidiDesk none = Check.desk(Check.file(0, 96, "00 903C40 00 903C00"));
        CHECK.due("a note without ticks", none.length(0), 0);
        none.read();
        CHECK.due("length without a list", none.length(0), -1);
        MidiDesk ahead = Check.desk(Check.file(0, 96, "00 803C40 00 903C40"));
        CHECK.due("an end of the same tick ahead", ahead.length(1), -1);
    }

    /** Another track, channel or first byte ends no note, nor does a note that begins. */
    private static void lengthsAmongOthers() {
        MidiDesk desk = Check.desk(Check.file(1, 96,
                "00 953C40 01 943C00 01 843C40 01 953D00 01 953C01 01 A53C00 01 E53C00 01 FF3C00 01 853C00",
                "00 853C40 01 953C00 05 953C40 08 853C00"));
        CHECK.due("length of track 0", desk.length(0), 8);
        for (int k = 0; k < desk.count(1); k++) {
            if (desk.event(k, 1) == 1 && desk.event(k, 4) == 0x40 && desk.event(k, 2) == 0x95) {
                CHECK.due("length of track 1", desk.length(k), 8);
            }
        }
    }

    private static MidiDesk many() {
        return Check.desk(Check.file(1, 96,
                "00 803C01 00 903D02 00 A03E03 00 B03F04 00 C040 00 D041 00 E04205 00 F001 43 00 FF4400",
                "00 813C01 00 913D02 00 A13E03 00 8F0A01"));
    }

    private static String firsts(MidiDesk desk) {
        return Check.column(desk, 3);
    }

    private static void transposed() {
        MidiDesk desk = many();
        CHECK.due("transpose(0, 5)", desk.transpose(0, 5), 3);
        CHECK.due("channel 0", firsts(desk), "65 66 67 63 64 65 66 -1 68 60 61 62 10 ");
        CHECK.due("transpose(1, -7)", desk.transpose(1, -7), 3);
        CHECK.due("channel 1", firsts(desk), "65 66 67 63 64 65 66 -1 68 53 54 55 10 ");
        CHECK.due("transpose(15, 1)", desk.transpose(15, 1), 1);
        CHECK.due("transpose(2, 99)", desk.transpose(2, 99), 0);
        CHECK.due("transpose(2, most)", desk.transpose(2, Integer.MAX_VALUE), 0);
        CHECK.due("transpose(16, -1)", desk.transpose(16, -1), 7);
        CHECK.due("all channels", firsts(desk), "64 65 66 63 64 65 66 -1 68 52 53 54 10 ");
        CHECK.due("transpose(16, 0)", desk.transpose(16, 0), 7);
        CHECK.due("second bytes stay", desk.event(1, 4), 2);
    }

    private static void limits() {
        MidiDesk desk = many();
        String before = firsts(desk);
        int[] wrong = {66, -61, Integer.MAX_VALUE, Integer.MIN_VALUE, 128, -128};
        for (int by : wrong) {
            CHECK.due("transpose(0, " + by + ")", desk.transpose(0, by), -1);
            CHECK.due("nothing changed", firsts(desk), before);
        }
        CHECK.due("transpose(16, -11)", desk.transpose(16, -11), -1);
        CHECK.due("nothing changed", firsts(desk), before);
        CHECK.due("transpose(0, 65)", desk.transpose(0, 65), 3);
        CHECK.due("up to 127", desk.event(2, 3), 127);
        CHECK.due("transpose(0, -125)", desk.transpose(0, -125), 3);
        CHECK.due("down to 0", desk.event(0, 3), 0);
        CHECK.due("transpose(0, -1)", desk.transpose(0, -1), -1);
    }

    private static void wrongChannels() {
        MidiDesk desk = many();
        for (int channel : new int[] {-1, 17, Integer.MIN_VALUE, Integer.MAX_VALUE}) {
            CHECK.throwsArgument("transpose(" + channel + ", 0)", () -> desk.transpose(channel, 0));
        }
        desk.read();
        CHECK.throwsState("transpose(0, 0)", () -> desk.transpose(0, 0));
        CHECK.throwsState("transpose(17, 0)", () -> desk.transpose(17, 0));
    }
}
