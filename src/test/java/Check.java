import java.util.Arrays;

/** What the tests share: answers held against the ones due, and files made from hex digits. */
final class Check {
    static final String HEAD = "4D546864 00000006 ";
    static final String TRACK = "4D54726B ";
    static final String END = "00 FF2F00";
    /** Where the first track's letters, and its first byte behind the length, lie. */
    static final int LETTERS = 14;
    static final int BODY = 22;
    static final int LAST_TICK = (1 << 28) - 1;

    private final String name;
    private String sentence = "";
    private int asked = 0;
    private int wrong = 0;

    Check(String name) {
        this.name = name;
    }

    interface Call {
        long answer();
    }

    /** The document's words that the answers from here on are held against. */
    void sentence(String words) {
        sentence = " (" + words + ")";
    }

    private void tell(String call, String got, String want) {
        wrong++;
        System.out.println(name + ": " + call + " answered " + got + ", due is " + want + sentence);
    }

    void due(String call, long got, long want) {
        asked++;
        if (got != want) {
            tell(call, Long.toString(got), Long.toString(want));
        }
    }

    void due(String call, String got, String want) {
        asked++;
        if (!got.equals(want)) {
            tell(call, got, want);
        }
    }

    void throwsState(String call, Call c) {
        due(call, thrown(c), "IllegalStateException");
    }

    void throwsArgument(String call, Call c) {
        due(call, thrown(c), "IllegalArgumentException");
    }

    /** What a new object answers to a read of this file; a kind of 0 means that it has no fault. */
    void dueRead(String what, String hex, int kind, int place) {
        MidiDesk desk = new MidiDesk();
        due(what, read(desk, hex), kind == 0 ? 0 : kind + 16 * place);
        due(what + ", input", desk.count(0), 0);
        due(what + ", no list", desk.count(3) == -1 ? 1 : 0, kind == 0 ? 0 : 1);
    }

    /** A track of just these bytes, with no end of its own; the place counts from its first byte. */
    void dueTrack(String what, String body, int kind, int place) {
        dueRead(what, head(1, 1, 96) + chunk(TRACK, body), kind, BODY + place);
    }

    static String thrown(Call c) {
        try {
            return "answer " + c.answer();
        } catch (RuntimeException e) {
            return e.getClass().getSimpleName();
        }
    }

    void close() {
        System.out.println(name + ": " + asked + " answers, " + wrong + " wrong");
        if (wrong != 0) {
            System.exit(1);
        }
    }

    static int[] bytes(String hex) {
        String digits = hex.replace(" ", "");
        int[] row = new int[digits.length() / 2];
        for (int i = 0; i < row.length; i++) {
            row[i] = Integer.parseInt(digits.substring(2 * i, 2 * i + 2), 16);
        }
        return row;
    }

    static String head(int format, int tracks, int division) {
        return HEAD + String.format("%04X %04X %04X ", format, tracks, division);
    }

    static String chunk(String letters, String body) {
        return letters + String.format("%08X ", bytes(body).length) + body + " ";
    }

    /** A track with these events and an end. */
    static String track(String events) {
        return chunk(TRACK, events + " " + END);
    }

    static String file(int format, int division, String... tracks) {
        StringBuilder all = new StringBuilder(head(format, tracks.length, division));
        for (String events : tracks) {
            all.append(track(events));
        }
        return all.toString();
    }

    static void feed(MidiDesk desk, int[] row) {
        for (int from = 0; from < row.length; from += 8) {
            int n = Math.min(8, row.length - from);
            long value = 0;
            for (int i = 0; i < n; i++) {
                value = value << 8 | row[from + i];
            }
            desk.feed(value, n);
        }
    }

    static int read(MidiDesk desk, String hex) {
        feed(desk, bytes(hex));
        return desk.read();
    }

    static MidiDesk desk(String hex) {
        MidiDesk desk = new MidiDesk();
        int fault = read(desk, hex);
        if (fault != 0) {
            throw new IllegalStateException("a file of the test has fault " + fault);
        }
        return desk;
    }

    static String written(MidiDesk desk) {
        StringBuilder all = new StringBuilder();
        for (int i = 0; i < desk.count(8); i++) {
            all.append(String.format("%02X", desk.written(i)));
        }
        return all.toString();
    }

    /** An event's six values, as one text. */
    static String event(MidiDesk desk, int k) {
        int[] row = new int[6];
        for (int what = 0; what < 6; what++) {
            row[what] = desk.event(k, what);
        }
        return Arrays.toString(row);
    }

    /** One value of all events of the list, as one text. */
    static String column(MidiDesk desk, int what) {
        StringBuilder all = new StringBuilder();
        for (int k = 0; k < desk.count(1); k++) {
            all.append(desk.event(k, what)).append(' ');
        }
        return all.toString();
    }

    /** A number in so many bytes. */
    static String number(int value, int bytes) {
        StringBuilder all = new StringBuilder();
        for (int i = bytes - 1; i >= 0; i--) {
            all.append(String.format("%02X", value >> (7 * i) & 127 | (i > 0 ? 128 : 0)));
        }
        return all.toString();
    }

    static String plain(String hex) {
        return hex.replace(" ", "");
    }
}
