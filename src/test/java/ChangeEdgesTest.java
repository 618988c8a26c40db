/** Promises 9 to 11, a sentence at a time: the edges of transpose, grid and clear. */
public final class ChangeEdgesTest {
    private static final Check CHECK = new Check("change edges");
    private static final int[] FAR = {Integer.MIN_VALUE, Integer.MIN_VALUE + 1, Integer.MAX_VALUE - 1,
        Integer.MAX_VALUE};

    public static void main(String[] args) {
        noteStatuses();
        channels();
        highestNote();
        lowestNote();
        refusedTranspose();
        transposeArguments();
        nearest();
        twoAsNear();
        changedTicks();
        orderAnew();
        stepArguments();
        tickTooLate();
        clearedTracks();
        tracksKeepNumbers();
        trackArguments();
        CHECK.close();
    }

    private static void noteStatuses() {
        CHECK.sentence("All notes of a channel (first bytes of status 0x80 .. 0xAF)");
        for (int status = 0x80; status < 0xF0; status++) {
            boolean one = status >= 0xC0 && status <= 0xDF;
            String body = String.format("00 %02X 3C", status) + (one ? "" : "05");
            boolean note = status <= 0xAF;
            for (int channel = 0; channel <= 16; channel++) {
                MidiDesk desk = Check.desk(Check.file(0, 96, body));
                boolean goes = note && (channel == 16 || channel == (status & 15));
                CHECK.due(body + " of " + channel, desk.transpose(channel, 7), goes ? 1 : 0);
                CHECK.due(body + " of " + channel + ", first", desk.event(0, 3), goes ? 67 : 60);
                CHECK.due(body + " of " + channel + ", second", desk.event(0, 4), one ? -1 : 5);
                CHECK.due(body + " of " + channel + ", status", desk.event(0, 2), status);
            }
        }
        MidiDesk meta = Check.desk(Check.file(0, 96, "00 FF3C0105 00 F0023C3C 00 F7013C"));
        CHECK.due("no notes", meta.transpose(16, 127), 0);
        CHECK.due("kind", meta.event(0, 3), 0x3C);
        CHECK.due("byte", meta.byteOf(1, 0), 0x3C);
    }

    private static void channels() {
        CHECK.sentence("of all channels for 16");
        StringBuilder body = new StringBuilder();
        for (int channel = 0; channel < 16; channel++) {
            body.append(String.format("00 9%X 3C40", channel));
        }
        MidiDesk desk = Check.desk(Check.file(1, 96, body.toString(), body.toString()));
        for (int channel = 0; channel < 16; channel++) {
            CHECK.due("transpose(" + channel + ")", desk.transpose(channel, channel), 2);
        }
        for (int channel = 0; channel < 16; channel++) {
            CHECK.due("channel " + channel, desk.event(channel, 3), 60 + channel);
            CHECK.due("channel " + channel + " of track 1", desk.event(16 + channel, 3), 60 + channel);
        }
        CHECK.due("transpose(16)", desk.transpose(16, -60), 32);
        CHECK.due("channel 0", desk.event(0, 3), 0);
        CHECK.due("channel 15", desk.event(31, 3), 15);
    }

    private static MidiDesk keys() {
        return Check.desk(Check.file(0, 96, "00 803C40 00 907B01 00 A00500 00 910001 00 927F01"));
    }

    private static void highestNote() {
        CHECK.sentence("NONE when one would not be 0 .. 127 (above)");
        MidiDesk desk = keys();
        CHECK.due("123 up by 5", desk.transpose(0, 5), -1);
        CHECK.due("first bytes", Check.column(desk, 3), "60 123 5 0 127 ");
        CHECK.due("123 up by 4", desk.transpose(0, 4), 3);
        CHECK.due("first bytes", Check.column(desk, 3), "64 127 9 0 127 ");
        CHECK.due("127 up by 1", desk.transpose(0, 1), -1);
        CHECK.due("0 up by 128", desk.transpose(1, 128), -1);
        CHECK.due("0 up by 127", desk.transpose(1, 127), 1);
        CHECK.due("127 up by 0", desk.transpose(1, 0), 1);
        CHECK.due("first bytes", Check.column(desk, 3), "64 127 9 127 127 ");
    }

    private static void lowestNote() {
        CHECK.sentence("NONE when one would not be 0 .. 127 (below)");
        MidiDesk desk = keys();
        CHECK.due("5 down by 6", desk.transpose(0, -6), -1);
        CHECK.due("first bytes", Check.column(desk, 3), "60 123 5 0 127 ");
        CHECK.due("5 down by 5", desk.transpose(0, -5), 3);
        CHECK.due("first bytes", Check.column(desk, 3), "55 118 0 0 127 ");
        CHECK.due("0 down by 1", desk.transpose(1, -1), -1);
        CHECK.due("127 down by 128", desk.transpose(2, -128), -1);
        CHECK.due("127 down by 127", desk.transpose(2, -127), 1);
        CHECK.due("first bytes", Check.column(desk, 3), "55 118 0 0 0 ");
    }

    private static void refusedTranspose() {
        CHECK.sentence("NONE, changing nothing");
        MidiDesk desk = keys();
        for (int by : new int[] {1, -1, 128, -128, 256, -256}) {
            CHECK.due("transpose(16, " + by + ")", desk.transpose(16, by), -1);
            CHECK.due("first bytes", Check.column(desk, 3), "60 123 5 0 127 ");
        }
        for (int by : FAR) {
            for (int channel : new int[] {0, 1, 2, 16}) {
                CHECK.due("transpose(" + channel + ", " + by + ")", desk.transpose(channel, by), -1);
                CHECK.due("first bytes", Check.column(desk, 3), "60 123 5 0 127 ");
            }
            CHECK.due("a channel without notes", desk.transpose(3, by), 0);
        }
        CHECK.due("transpose(16, 0)", desk.transpose(16, 0), 5);
        CHECK.due("first bytes", Check.column(desk, 3), "60 123 5 0 127 ");
    }

    private static void transposeArguments() {
        CHECK.sentence("IllegalStateException without a list; else IllegalArgumentException when "
                + "channel is not 0 .. 16");
        MidiDesk desk = keys();
        CHECK.due("transpose(0, 0)", desk.transpose(0, 0), 3);
        CHECK.due("transpose(15, 0)", desk.transpose(15, 0), 0);
        CHECK.due("transpose(16, 0)", desk.transpose(16, 0), 5);
        MidiDesk none = new MidiDesk();
        for (int channel : new int[] {-1, 17, 32, 256, Integer.MIN_VALUE, Integer.MAX_VALUE}) {
            CHECK.throwsArgument("transpose(" + channel + ", 1)", () -> desk.transpose(channel, 1));
            CHECK.throwsArgument("transpose(" + channel + ", 999)", () -> desk.transpose(channel, 999));
            CHECK.throwsState("transpose(" + channel + ", 1)", () -> none.transpose(channel, 1));
        }
        CHECK.throwsState("transpose(16, 1)", () -> none.transpose(16, 1));
        CHECK.due("first bytes", Check.column(desk, 3), "60 123 5 0 127 ");
    }

    private static int onGrid(int tick, int step) {
        MidiDesk desk = Check.desk(Check.file(0, 96, Check.number(tick, 4) + "C001"));
        desk.grid(step);
        return desk.event(0, 0);
    }

    private static void nearest() {
        CHECK.sentence("All ticks become the nearest multiple of step");
        int[][] due = {{0, 1, 0}, {1, 1, 1}, {Check.LAST_TICK, 1, Check.LAST_TICK}, {1, 3, 0}, {2, 3, 3},
            {4, 3, 3}, {5, 3, 6}, {2, 5, 0}, {3, 5, 5}, {7, 5, 5}, {8, 5, 10}, {49999, 99999, 0},
            {50000, 99999, 99999}, {149998, 99999, 99999}, {149999, 99999, 199998}, {49999, 100000, 0},
            {50001, 100000, 100000}, {149999, 100000, 100000}, {0, 100000, 0}, {100000, 100000, 100000}};
        for (int[] row : due) {
            CHECK.due(row[0] + " on " + row[1], onGrid(row[0], row[1]), row[2]);
        }
        for (int step = 1; step <= 9; step++) {
            for (int tick = 0; tick <= 3 * step; tick++) {
                int near = onGrid(tick, step);
                int away = Math.abs(near - tick);
                CHECK.due("a multiple of " + step, near % step, 0);
                CHECK.due(tick + " on " + step + " is near", 2 * away <= step ? 1 : 0, 1);
                CHECK.due(tick + " on " + step + " is the higher of two", 2 * away < step || near > tick ? 1 : 0, 1);
            }
        }
    }

    private static void twoAsNear() {
        CHECK.sentence("the higher one of two as near");
        int[][] due = {{1, 2, 2}, {3, 2, 4}, {2, 4, 4}, {6, 4, 8}, {3, 6, 6}, {50000, 100000, 100000},
            {150000, 100000, 200000}, {49999, 99998, 99998}};
        for (int[] row : due) {
            CHECK.due(row[0] + " on " + row[1], onGrid(row[0], row[1]), row[2]);
        }
    }

    private static void changedTicks() {
        CHECK.sentence("how many were another one");
        MidiDesk desk = Check.desk(Check.file(1, 96, "00 C001 04 C002 01 C003", "03 C004 05 C005 01 C006"));
        CHECK.due("grid(1)", desk.grid(1), 0);
        CHECK.due("ticks", Check.column(desk, 0), "0 3 4 5 8 9 ");
        CHECK.due("grid(4)", desk.grid(4), 3);
        CHECK.due("ticks", Check.column(desk, 0), "0 4 4 4 8 8 ");
        CHECK.due("grid(4) again", desk.grid(4), 0);
        CHECK.due("grid(100000)", desk.grid(100000), 5);
        CHECK.due("count(5)", desk.count(5), 0);
        CHECK.due("grid of no events", Check.desk(Check.file(0, 96, "")).grid(1), 0);
    }

    private static void orderAnew() {
        CHECK.sentence("the list is put in order anew (its order before as its order in each track)");
        MidiDesk desk = Check.desk(Check.file(1, 96, "0B C001 00 C002", "0A C003 01 C004", "09 C005 03 C006"));
        CHECK.due("before", Check.column(desk, 3), "5 3 1 2 4 6 ");
        CHECK.due("grid(10)", desk.grid(10), 5);
        CHECK.due("first bytes", Check.column(desk, 3), "1 2 3 4 5 6 ");
        CHECK.due("ticks", Check.column(desk, 0), "10 10 10 10 10 10 ");
        MidiDesk apart = Check.desk(Check.file(1, 96, "05 C001", "04 C002"));
        CHECK.due("before", Check.column(apart, 3), "2 1 ");
        CHECK.due("grid(10)", apart.grid(10), 2);
        CHECK.due("the lower track is behind", Check.column(apart, 3), "2 1 ");
        CHECK.due("ticks", Check.column(apart, 0), "0 10 ");
    }

    private static void stepArguments() {
        CHECK.sentence("IllegalStateException without a list; else IllegalArgumentException when step is "
                + "not 1 .. 100000");
        MidiDesk desk = Check.desk(Check.file(0, 96, "01 C001 01 C002"));
        MidiDesk empty = Check.desk(Check.file(0, 96, ""));
        MidiDesk none = new MidiDesk();
        for (int step : new int[] {0, -1, 100001, -100000, 200000, Integer.MIN_VALUE, Integer.MAX_VALUE}) {
            CHECK.throwsArgument("grid(" + step + ")", () -> desk.grid(step));
            CHECK.throwsArgument("grid(" + step + ") of no events", () -> empty.grid(step));
            CHECK.throwsState("grid(" + step + ") without a list", () -> none.grid(step));
        }
        CHECK.throwsState("grid(1) without a list", () -> none.grid(1));
        CHECK.due("ticks as before", Check.column(desk, 0), "1 2 ");
        CHECK.due("grid(1)", desk.grid(1), 0);
        CHECK.due("grid(100000)", desk.grid(100000), 2);
    }

    private static void dueLate(int tick, int step, boolean tooLate, int behind) {
        MidiDesk desk = Check.desk(Check.file(1, 96, "01 C001", Check.number(tick, 4) + "C002"));
        if (tooLate) {
            CHECK.throwsArgument(tick + " on " + step, () -> desk.grid(step));
            CHECK.due("ticks as before", Check.column(desk, 0), "1 " + tick + " ");
        } else {
            desk.grid(step);
            CHECK.due(tick + " on " + step, desk.event(1, 0), behind);
        }
    }

    private static void tickTooLate() {
        CHECK.sentence("IllegalArgumentException when a tick would be above 2^28 - 1");
        int last = Check.LAST_TICK;
        // 2^28 - 1 is a multiple of 3, of 5 and of 127, and 2^28 one of 2 and of 4.
        dueLate(last, 1, false, last);
        dueLate(last, 3, false, last);
        dueLate(last - 1, 3, false, last);
        dueLate(last, 5, false, last);
        dueLate(last - 2, 5, false, last);
        dueLate(last - 3, 5, false, last - 5);
        dueLate(last, 2, true, 0);
        dueLate(last - 1, 2, false, last - 1);
        dueLate(last, 4, true, 0);
        dueLate(last - 1, 4, true, 0);
        dueLate(last - 2, 4, false, last - 3);
        dueLate(last, 65536, true, 0);
        dueLate(last + 1 - 32768, 65536, true, 0);
        dueLate(last - 32768, 65536, false, last + 1 - 65536);
        // The last multiple of 100000 is 268400000, 35455 ticks ahead of the last one.
        dueLate(last, 100000, false, 268400000);
        // Of 80000 it is 268400000 too, with 35455 of 40000 ticks up to the last one.
        dueLate(last, 80000, false, 268400000);
        // Of 70000 it is 268380000, and 55455 ticks are more than half of them.
        dueLate(last, 70000, true, 0);
        dueLate(268380000 + 35000, 70000, true, 0);
        dueLate(268380000 + 34999, 70000, false, 268380000);
        CHECK.sentence("Ends of tracks are none of them");
        MidiDesk end = Check.desk(Check.head(0, 1, 96) + Check.chunk(Check.TRACK, "01 C001 FFFFFF7E FF2F00"));
        CHECK.due("grid(2) with a late end", end.grid(2), 1);
    }

    private static void clearedTracks() {
        CHECK.sentence("All events of a track go: how many");
        MidiDesk desk = Check.desk(Check.file(1, 96, "00 C001 05 FF5103000001", "", "02 903C40 00 F0025566 05 803C40"));
        CHECK.due("clear(1), an empty one", desk.clear(1), 0);
        CHECK.due("count(1)", desk.count(1), 5);
        CHECK.due("clear(0)", desk.clear(0), 2);
        CHECK.due("clear(0) again", desk.clear(0), 0);
        CHECK.due("statuses", Check.column(desk, 2), "144 240 128 ");
        CHECK.due("byteOf(1, 1)", desk.byteOf(1, 1), 0x66);
        CHECK.due("length(0)", desk.length(0), 5);
        CHECK.due("count(6)", desk.count(6), 0);
        CHECK.due("clear(2)", desk.clear(2), 3);
        CHECK.due("count(1)", desk.count(1), 0);
        CHECK.due("there is a list", desk.count(2), 1);
        CHECK.due("clear(2) again", desk.clear(2), 0);
    }

    private static void tracksKeepNumbers() {
        CHECK.sentence("tracks keep their numbers");
        MidiDesk desk = Check.desk(Check.file(1, 96, "00 C001", "00 C002", "00 C003"));
        desk.clear(0);
        CHECK.due("tracks", Check.column(desk, 1), "1 2 ");
        CHECK.due("count(3)", desk.count(3), 3);
        CHECK.due("clear(2)", desk.clear(2), 1);
        CHECK.due("tracks", Check.column(desk, 1), "1 ");
        CHECK.due("write", desk.write(1, false), 14 + 3 * 12 + 3);
        CHECK.due("file", Check.written(desk), Check.plain(Check.file(1, 96, "", "00 C002", "")));
    }

    private static void trackArguments() {
        CHECK.sentence("IllegalStateException without a list; else IllegalArgumentException when there is "
                + "no such track");
        MidiDesk none = new MidiDesk();
        CHECK.throwsState("clear(0) without a list", () -> none.clear(0));
        for (int tracks : new int[] {1, 2, 16}) {
            String[] bodies = new String[tracks];
            for (int i = 0; i < tracks; i++) {
                bodies[i] = "00 C001";
            }
            MidiDesk desk = Check.desk(Check.file(2, 96, bodies));
            for (int track : new int[] {-1, tracks, tracks + 1, 17, Integer.MIN_VALUE, Integer.MAX_VALUE}) {
                CHECK.throwsArgument("clear(" + track + ") of " + tracks, () -> desk.clear(track));
                CHECK.throwsState("clear(" + track + ") without a list", () -> none.clear(track));
            }
            CHECK.due("count(1)", desk.count(1), tracks);
            CHECK.due("clear of the last", desk.clear(tracks - 1), 1);
            CHECK.due("clear(0)", desk.clear(0), tracks == 1 ? 0 : 1);
        }
    }
}
