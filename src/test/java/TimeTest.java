/** Promises 6 and 7: time and rest. */
public final class TimeTest {
    private static final Check CHECK = new Check("time");
    private static final int LAST = Check.LAST_TICK;

    public static void main(String[] args) {
        firstTempo();
        changes();
        sameTick();
        formatTwo();
        frames();
        changedLists();
        wrongTicks();
        CHECK.close();
    }

    private static void due(MidiDesk desk, int t, long time, long rest) {
        CHECK.due("time(" + t + ")", desk.time(t), time);
        CHECK.due("rest(" + t + ")", desk.rest(t), rest);
    }

    private static void firstTempo() {
        MidiDesk desk = Check.desk(Check.file(0, 96, ""));
        due(desk, 0, 0, 0);
        due(desk, 1, 5208, 32);
        due(desk, 96, 500000, 0);
        due(desk, LAST, 500000L * LAST / 96, 500000L * LAST % 96);
        due(Check.desk(Check.file(0, 1, "")), LAST, 500000L * LAST, 0);
        due(Check.desk(Check.file(0, 32767, "")), 1, 15, 8495);
    }

    private static void changes() {
        // 1000000 from tick 10 on, 16777215 from 20 on, in another track than 0 and 1 from 30 on.
        MidiDesk desk = Check.desk(Check.file(1, 7, "0A FF5103 0F4240 0A FF5103 FFFFFF",
                "1E FF5103 000001"));
        due(desk, 10, 5000000 / 7, 5000000 % 7);
        due(desk, 11, 6000000 / 7, 6000000 % 7);
        due(desk, 20, 15000000 / 7, 15000000 % 7);
        due(desk, 21, (15000000 + 16777215) / 7, (15000000 + 16777215) % 7);
        due(desk, 30, (15000000 + 167772150) / 7, (15000000 + 167772150) % 7);
        due(desk, 37, (15000000 + 167772150 + 7) / 7, (15000000 + 167772150 + 7) % 7);
        MidiDesk first = Check.desk(Check.file(0, 1, "00 FF5103 FFFFFF"));
        due(first, LAST, 16777215L * LAST, 0);
        due(Check.desk(Check.file(0, 2, "00 FF5103 010203")), 1, 0x10203 / 2, 1);
    }

    private static void sameTick() {
        MidiDesk desk = Check.desk(Check.file(1, 1,
                "00 FF5103 000001 00 FF5103 000002", "00 FF5103 000003 00 FF5103 000004"));
        due(desk, 5, 20, 0);
        MidiDesk one = Check.desk(Check.file(1, 1, "05 FF5103 000001 00 FF5103 000002", ""));
        due(one, 6, 2500002, 0);
    }

    private static void formatTwo() {
        String[] tracks = {"02 FF5103 000001", "01 FF5103 000003 05 FF5103 000004"};
        due(Check.desk(Check.file(2, 1, tracks)), 10, 1000008, 0);
        due(Check.desk(Check.file(1, 1, tracks)), 10, 500000 + 3 + 4 + 16, 0);
        MidiDesk desk = Check.desk(Check.file(1, 1, tracks));
        desk.write(2, false);
        due(desk, 10, 500000 + 3 + 4 + 16, 0);
        desk.back();
        desk.read();
        due(desk, 10, 1000008, 0);
    }

    private static void frames() {
        String tempo = "00 FF5103 000001";
        for (int frames : new int[] {24, 25, 30}) {
            for (int ticks : new int[] {1, 7, 80, 255}) {
                MidiDesk desk = Check.desk(Check.file(0, (256 - frames) << 8 | ticks, tempo));
                int parts = frames * ticks;
                CHECK.due("parts", desk.count(9), parts);
                for (int t : new int[] {0, 1, 2, 1000, LAST}) {
                    due(desk, t, t * 1000000L / parts, t * 1000000L % parts);
                }
                due(desk, parts, 1000000, 0);
            }
        }
        MidiDesk odd = Check.desk(Check.file(0, 0xE301, tempo));
        CHECK.due("parts", odd.count(9), 3);
        due(odd, 1, 33366, 2);
        due(odd, 2, 66733, 1);
        due(odd, 30000, 1001000000, 0);
        due(odd, LAST, LAST * 100100L / 3, LAST * 100100L % 3);
        MidiDesk fine = Check.desk(Check.file(0, 0xE3FF, tempo));
        CHECK.due("parts", fine.count(9), 765);
        due(fine, 1, 130, 650);
        due(fine, 255 * 30000, 1001000000, 0);
    }

    private static void changedLists() {
        MidiDesk desk = Check.desk(Check.file(1, 1, "03 FF5103 000001", "08 FF5103 000002"));
        due(desk, 10, 1500000 + 5 + 4, 0);
        desk.grid(5);
        due(desk, 10, 2500000 + 5, 0);
        due(desk, 11, 2500000 + 5 + 2, 0);
        desk.clear(0);
        due(desk, 11, 5000000 + 2, 0);
        desk.clear(1);
        due(desk, 11, 5500000, 0);
    }

    private static void wrongTicks() {
        MidiDesk desk = Check.desk(Check.file(0, 96, ""));
        for (int t : new int[] {-1, LAST + 1, Integer.MIN_VALUE, Integer.MAX_VALUE}) {
            CHECK.throwsArgument("time(" + t + ")", () -> desk.time(t));
            CHECK.throwsArgument("rest(" + t + ")", () -> desk.rest(t));
        }
        desk.read();
        for (int t : new int[] {0, -1}) {
            CHECK.throwsState("time(" + t + ")", () -> desk.time(t));
            CHECK.throwsState("rest(" + t + ")", () -> desk.rest(t));
        }
    }
}
