import java.util.Arrays;

/**
 * A desk for files of notes and other events in tracks: they are fed as bytes, read, changed, timed
 * and written again.
 */
public final class MidiDesk {
    public static final int NONE = -1;

    private static final int MOST_INPUT = 12000;
    private static final int MOST_EVENTS = 1000;
    private static final int MOST_DATA = 8000;
    /** Above the longest file that MOST_EVENTS events with MOST_DATA bytes in 16 tracks can need. */
    private static final int MOST_OUTPUT = 16384;
    private static final int MOST_TRACKS = 16;
    private static final int MOST_FORMAT = 2;
    private static final int MOST_STEP = 100000;
    private static final int LAST_TICK = (1 << 28) - 1;
    private static final int ALL_CHANNELS = 16;

    private static final int HEAD_LETTERS = 0x4D546864;
    private static final int TRACK_LETTERS = 0x4D54726B;
    private static final int HEAD_SIZE = 6;

    private static final int NOTE_OFF = 0x80;
    private static final int NOTE_ON = 0x90;
    private static final int NOTE_PRESSURE = 0xA0;
    private static final int PROGRAM = 0xC0;
    private static final int CHANNEL_PRESSURE = 0xD0;
    private static final int EXCLUSIVE = 0xF0;
    private static final int ESCAPE = 0xF7;
    private static final int META = 0xFF;
    private static final int END_KIND = 0x2F;
    private static final int TEMPO_KIND = 0x51;
    private static final int TEMPO_SIZE = 3;
    private static final int FIRST_TEMPO = 500000;

    private static final int FAULT_MISSING = 1;
    private static final int FAULT_HEAD = 2;
    private static final int FAULT_HEAD_VALUE = 3;
    private static final int FAULT_NUMBER = 4;
    private static final int FAULT_STATUS = 5;
    private static final int FAULT_HIGH_BYTE = 6;
    private static final int FAULT_END = 7;
    private static final int FAULT_TEMPO = 8;
    private static final int FAULT_TOO_MUCH = 9;
    private static final int FAULT_TRACKS = 10;
    private static final int FAULT_TICK = 11;

    private final Bytes input;
    private final Bytes output;
    private final Score score;

    public MidiDesk() {
        input = new Bytes(MOST_INPUT);
        output = new Bytes(MOST_OUTPUT);
        score = new Score();
    }

    public int feed(long bytes, int n) {
        if (n < 1 || n > 8 || input.size() + n > MOST_INPUT) {
            return NONE;
        }
        for (int i = n - 1; i >= 0; i--) {
            input.put((int) (bytes >>> (8 * i)));
        }
        return input.size();
    }

    public int read() {
        Parser parser = new Parser(input, score);
        int fault = parser.parse();
        input.empty();
        return fault;
    }

    public int event(int k, int what) {
        Event e = score.at(k);
        if (e == null) {
            return NONE;
        }
        switch (what) {
            case 0:
                return e.tick;
            case 1:
                return e.track;
            case 2:
                return e.status;
            case 3:
                return e.first;
            case 4:
                return e.second;
            case 5:
                return e.size;
            default:
                return NONE;
        }
    }

    public int byteOf(int k, int i) {
        Event e = score.at(k);
        if (e == null || i < 0 || i >= e.size) {
            return NONE;
        }
        return score.data.at(e.start + i);
    }

    public long time(int t) throws IllegalStateException, IllegalArgumentException {
        needList();
        needTick(t);
        return score.partsBefore(t) / score.partsOfMicrosecond();
    }

    public long rest(int t) throws IllegalStateException, IllegalArgumentException {
        needList();
        needTick(t);
        return score.partsBefore(t) % score.partsOfMicrosecond();
    }

    public int length(int k) {
        return score.noteTicks(k);
    }

    public int transpose(int channel, int by)
            throws IllegalStateException, IllegalArgumentException {
        needList();
        if (channel < 0 || channel > ALL_CHANNELS) {
            throw new IllegalArgumentException("no such channel");
        }
        return score.shiftNotes(channel, by);
    }

    public int grid(int step) throws IllegalStateException, IllegalArgumentException {
        needList();
        if (step < 1 || step > MOST_STEP) {
            throw new IllegalArgumentException("no such step");
        }
        // Rounding keeps the order of ticks, so the greatest tick speaks for all of them.
        if (nearest(score.greatestTick(), step) > LAST_TICK) {
            throw new IllegalArgumentException("a tick would be too late");
        }
        return score.roundTicks(step);
    }

    public int clear(int track) throws IllegalStateException, IllegalArgumentException {
        needList();
        if (track < 0 || track >= score.tracks) {
            throw new IllegalArgumentException("no such track");
        }
        return score.dropTrack(track);
    }

    public int write(int format, boolean brief)
            throws IllegalStateException, IllegalArgumentException {
        needList();
        if (format < 0 || format > MOST_FORMAT) {
            throw new IllegalArgumentException("no such format");
        }
        Printer printer = new Printer(score, output, brief);
        printer.print(format);
        return output.size();
    }

    public int written(int i) {
        return output.at(i);
    }

    public int back() {
        int size = output.size();
        if (size == 0 || size > MOST_INPUT) {
            return NONE;
        }
        input.empty();
        for (int i = 0; i < size; i++) {
            input.put(output.at(i));
        }
        return size;
    }

    public int count(int what) {
        switch (what) {
            case 0:
                return input.size();
            case 1:
                return score.size;
            case 5:
                return score.greatestTick();
            case 6:
                return score.tempoEvents();
            case 7:
                return score.notesBegun();
            case 8:
                return output.size();
            default:
                return score.present ? headValue(what) : NONE;
        }
    }

    private int headValue(int what) {
        switch (what) {
            case 2:
                return score.format;
            case 3:
                return score.tracks;
            case 4:
                return score.division;
            case 9:
                return score.partsOfMicrosecond();
            default:
                return NONE;
        }
    }

    private void needList() {
        if (!score.present) {
            throw new IllegalStateException("there is no list");
        }
    }

    private void needTick(int t) {
        if (t < 0 || t > LAST_TICK) {
            throw new IllegalArgumentException("no such tick");
        }
    }

    /** The step is 1 or more; adding half of it lets the higher of two equally near ones win. */
    private static int nearest(int tick, int step) {
        return (tick + step / 2) / step * step;
    }

    private static boolean hasOneByte(int status) {
        int kind = status & 0xF0;
        return kind == PROGRAM || kind == CHANNEL_PRESSURE;
    }

    /** A row of bytes. It grows as it is filled, so that a desk of small files stays small. */
    private static final class Bytes {
        private static final int FIRST_ROOM = 64;

        private final int most;
        private int[] row;
        private int size;

        Bytes(int most) {
            this.most = most;
            row = new int[FIRST_ROOM];
        }

        int size() {
            return size;
        }

        int at(int i) {
            return i >= 0 && i < size ? row[i] : NONE;
        }

        void put(int value) {
            if (size >= most) {
                return;
            }
            if (size == row.length) {
                row = Arrays.copyOf(row, 2 * size);
            }
            row[size] = value & 255;
            size++;
        }

        void change(int i, int value) {
            if (i >= 0 && i < size) {
                row[i] = value & 255;
            }
        }

        void empty() {
            size = 0;
        }
    }

    /** One event of the list; first, second and size are NONE where it has none. */
    private static final class Event {
        private int tick;
        private int track;
        private int status;
        private int first;
        private int second;
        private int start;
        private int size;

        boolean isChannelEvent() {
            return status < EXCLUSIVE;
        }

        boolean isTempo() {
            return status == META && first == TEMPO_KIND;
        }

        boolean isOfNote() {
            return status < NOTE_PRESSURE + 16;
        }

        boolean beginsNote() {
            return (status & 0xF0) == NOTE_ON && second > 0;
        }

        boolean endsNote() {
            int kind = status & 0xF0;
            return kind == NOTE_OFF || kind == NOTE_ON && second == 0;
        }

        boolean isOfChannel(int channel) {
            return channel == ALL_CHANNELS || (status & 15) == channel;
        }

        boolean endsNoteOf(Event begin) {
            return endsNote() && track == begin.track && first == begin.first
                    && (status & 15) == (begin.status & 15);
        }

        boolean belongsBehind(Event other) {
            return tick > other.tick || tick == other.tick && track > other.track;
        }
    }

    /** The list, with what the head said and the bytes that follow numbers. */
    private static final class Score {
        private static final int FIRST_ROOM = 16;

        private final Bytes data;
        private boolean present;
        private int format;
        private int tracks;
        private int division;
        /** Places from size on may hold events of earlier lists, which are used again. */
        private Event[] row;
        private Event[] spare;
        private int size;

        Score() {
            data = new Bytes(MOST_DATA);
            row = new Event[FIRST_ROOM];
            spare = new Event[FIRST_ROOM];
        }

        void forget() {
            present = false;
            size = 0;
            data.empty();
        }

        Event at(int k) {
            return k >= 0 && k < size ? row[k] : null;
        }

        boolean hasRoomFor(int bytes) {
            return size < MOST_EVENTS && data.size() + Math.max(0, bytes) <= MOST_DATA;
        }

        /** The caller has asked hasRoomFor, which bounds how far the rows grow. */
        Event addEvent() {
            if (size == row.length) {
                Event[] longer = new Event[2 * size];
                copyEvents(row, longer, 0, size);
                row = longer;
                spare = new Event[2 * size];
            }
            if (row[size] == null) {
                row[size] = new Event();
            }
            Event e = row[size];
            size++;
            return e;
        }

        private static void copyEvents(Event[] from, Event[] to, int place, int many) {
            for (int i = 0; i < many; i++) {
                to[place + i] = from[i];
            }
        }

        /** By ticks, then tracks, and else as before: a merge sort, because it keeps that order. */
        void putInOrder() {
            for (int width = 1; width < size; width *= 2) {
                for (int low = 0; low < size; low += 2 * width) {
                    int middle = Math.min(low + width, size);
                    mergeRuns(low, middle, Math.min(middle + width, size));
                }
                // Copied, not swapped: row also keeps the unused events behind size.
                copyEvents(spare, row, 0, size);
            }
        }

        private void mergeRuns(int low, int middle, int high) {
            int left = low;
            int right = middle;
            for (int to = low; to < high; to++) {
                boolean takesRight = left >= middle
                        || right < high && row[left].belongsBehind(row[right]);
                if (takesRight) {
                    spare[to] = row[right];
                    right++;
                } else {
                    spare[to] = row[left];
                    left++;
                }
            }
        }

        int greatestTick() {
            return size > 0 ? row[size - 1].tick : 0;
        }

        int tempoEvents() {
            int found = 0;
            for (int i = 0; i < size; i++) {
                if (row[i].isTempo()) {
                    found++;
                }
            }
            return found;
        }

        int notesBegun() {
            int found = 0;
            for (int i = 0; i < size; i++) {
                if (row[i].beginsNote()) {
                    found++;
                }
            }
            return found;
        }

        int noteTicks(int k) {
            Event begin = at(k);
            if (begin == null || !begin.beginsNote()) {
                return NONE;
            }
            for (int i = k + 1; i < size; i++) {
                if (row[i].endsNoteOf(begin)) {
                    return row[i].tick - begin.tick;
                }
            }
            return NONE;
        }

        int shiftNotes(int channel, int by) {
            int found = 0;
            for (int i = 0; i < size; i++) {
                Event e = row[i];
                if (e.isOfNote() && e.isOfChannel(channel)) {
                    long key = (long) e.first + by;
                    if (key < 0 || key > 127) {
                        return NONE;
                    }
                    found++;
                }
            }
            for (int i = 0; i < size; i++) {
                Event e = row[i];
                if (e.isOfNote() && e.isOfChannel(channel)) {
                    e.first += by;
                }
            }
            return found;
        }

        int roundTicks(int step) {
            int changed = 0;
            for (int i = 0; i < size; i++) {
                int tick = nearest(row[i].tick, step);
                if (tick != row[i].tick) {
                    changed++;
                }
                row[i].tick = tick;
            }
            putInOrder();
            return changed;
        }

        int dropTrack(int track) {
            int kept = 0;
            int gone = 0;
            for (int i = 0; i < size; i++) {
                Event e = row[i];
                if (e.track == track) {
                    spare[gone] = e;
                    gone++;
                } else {
                    row[kept] = e;
                    kept++;
                }
            }
            // Behind the list, so that no event stands in the row twice and each is used again.
            copyEvents(spare, row, kept, gone);
            size = kept;
            return gone;
        }

        private boolean hasFrames() {
            return division > 32767;
        }

        private int frames() {
            return 256 - (division >> 8);
        }

        /** Never 0 where there is a list, as its division has been looked at. */
        int partsOfMicrosecond() {
            if (!hasFrames()) {
                return Math.max(1, division);
            }
            int ticks = Math.max(1, division & 255);
            return ticks * (frames() == 29 ? 3 : frames());
        }

        long partsBefore(int t) {
            if (hasFrames()) {
                // 1001 seconds have 30000 frames: 100100 thirds of a microsecond in each.
                return (long) t * (frames() == 29 ? 100100 : 1000000);
            }
            long sum = 0;
            long tempo = FIRST_TEMPO;
            int from = 0;
            for (int i = 0; i < size && row[i].tick < t; i++) {
                Event e = row[i];
                if (e.isTempo() && (format != 2 || e.track == 0)) {
                    sum += tempo * (e.tick - from);
                    from = e.tick;
                    tempo = tempoOf(e);
                }
            }
            return sum + tempo * (t - from);
        }

        private int tempoOf(Event e) {
            return data.at(e.start) << 16 | data.at(e.start + 1) << 8 | data.at(e.start + 2);
        }
    }

    /** Reads the input into the score. Only the first fault is kept; behind it nothing moves. */
    private static final class Parser {
        private final Bytes input;
        private final Score score;
        private int pos;
        private int end;
        private int fault;
        private int tracksSeen;
        private int tick;
        /** The status that the next event may leave out, or NONE. */
        private int running;
        private boolean ended;
        private int first;
        private int second;
        private int start;
        private int size;

        Parser(Bytes input, Score score) {
            this.input = input;
            this.score = score;
        }

        int parse() {
            score.forget();
            end = input.size();
            head();
            for (int i = 0; i < MOST_INPUT && fault == 0 && pos < input.size(); i++) {
                if (beginsTrack()) {
                    track();
                } else {
                    pos = end;
                }
                end = input.size();
            }
            expect(tracksSeen == score.tracks, FAULT_TRACKS, end);
            if (fault == 0) {
                score.putInOrder();
                score.present = true;
            } else {
                score.forget();
            }
            return fault;
        }

        private void expect(boolean holds, int kind, int place) {
            if (!holds && fault == 0) {
                fault = kind + 16 * place;
            }
        }

        /** Some bytes as one, the highest first; NONE when one of them is missing. */
        private long fixed(int bytes) {
            expect(bytes <= end - pos, FAULT_MISSING, end);
            if (fault != 0) {
                return NONE;
            }
            long value = 0;
            for (int i = 0; i < bytes; i++) {
                value = value << 8 | input.at(pos);
                pos++;
            }
            return value;
        }

        private int number() {
            int at = pos;
            int value = 0;
            for (int i = 0; i < 4; i++) {
                int b = (int) fixed(1);
                if (fault != 0) {
                    return 0;
                }
                value = value << 7 | b & 127;
                if (b < 128) {
                    return value;
                }
            }
            expect(false, FAULT_NUMBER, at);
            return 0;
        }

        private int lowByte() {
            int at = pos;
            int b = (int) fixed(1);
            expect(b < 128, FAULT_HIGH_BYTE, at);
            return b;
        }

        private void head() {
            expect(fixed(4) == HEAD_LETTERS, FAULT_HEAD, 0);
            expect(fixed(4) == HEAD_SIZE, FAULT_HEAD, 4);
            int format = (int) fixed(2);
            expect(format <= MOST_FORMAT, FAULT_HEAD_VALUE, 8);
            int tracks = (int) fixed(2);
            int most = format == 0 ? 1 : MOST_TRACKS;
            expect(tracks >= 1 && tracks <= most, FAULT_HEAD_VALUE, 10);
            int division = (int) fixed(2);
            expect(isDivision(division), FAULT_HEAD_VALUE, 12);
            score.format = format;
            score.tracks = tracks;
            score.division = division;
        }

        private static boolean isDivision(int division) {
            if (division <= 32767) {
                return division >= 1;
            }
            int frames = 256 - (division >> 8);
            boolean known = frames == 24 || frames == 25 || frames == 29 || frames == 30;
            return known && (division & 255) > 0;
        }

        /** Reads a chunk's letters and length; end is the chunk's end then. */
        private boolean beginsTrack() {
            int at = pos;
            boolean isTrack = fixed(4) == TRACK_LETTERS;
            expect(!isTrack || tracksSeen < score.tracks, FAULT_TRACKS, at);
            long length = fixed(4);
            expect(length <= end - pos, FAULT_MISSING, end);
            if (fault != 0) {
                return false;
            }
            end = pos + (int) length;
            return isTrack;
        }

        private void track() {
            tick = 0;
            running = NONE;
            ended = false;
            for (int i = 0; i < MOST_INPUT && fault == 0 && !ended; i++) {
                oneEvent();
            }
            expect(pos == end, FAULT_END, pos);
            tracksSeen++;
        }

        private void oneEvent() {
            int at = pos;
            tick += number();
            expect(tick <= LAST_TICK, FAULT_TICK, at);
            int place = pos;
            int status = status();
            if (fault != 0) {
                return;
            }
            if (status < EXCLUSIVE) {
                channelEvent(status);
            } else if (status == META) {
                metaEvent();
            } else {
                exclusiveEvent();
            }
            if (!ended) {
                expect(score.hasRoomFor(size), FAULT_TOO_MUCH, place);
                keep(status);
            }
        }

        private int status() {
            int at = pos;
            int b = (int) fixed(1);
            if (fault == 0 && b < 128) {
                expect(running != NONE, FAULT_STATUS, at);
                pos = at;
                return running;
            }
            expect(b <= EXCLUSIVE || b == ESCAPE || b == META, FAULT_STATUS, at);
            return b;
        }

        private void channelEvent(int status) {
            running = status;
            first = lowByte();
            second = hasOneByte(status) ? NONE : lowByte();
            size = NONE;
        }

        private void exclusiveEvent() {
            running = NONE;
            first = NONE;
            second = NONE;
            size = number();
            passData();
        }

        private void metaEvent() {
            running = NONE;
            first = lowByte();
            second = NONE;
            int at = pos;
            size = number();
            ended = first == END_KIND;
            expect(!ended || size == 0, FAULT_END, at);
            expect(first != TEMPO_KIND || size == TEMPO_SIZE, FAULT_TEMPO, at);
            passData();
            if (fault == 0 && first == TEMPO_KIND) {
                int sum = input.at(start) + input.at(start + 1) + input.at(start + 2);
                expect(sum > 0, FAULT_TEMPO, start);
            }
        }

        private void passData() {
            expect(size <= end - pos, FAULT_MISSING, end);
            start = pos;
            if (fault == 0) {
                pos += size;
            }
        }

        private void keep(int status) {
            if (fault != 0) {
                return;
            }
            Event e = score.addEvent();
            e.tick = tick;
            e.track = tracksSeen;
            e.status = status;
            e.first = first;
            e.second = second;
            e.start = score.data.size();
            e.size = size;
            for (int i = 0; i < size; i++) {
                score.data.put(input.at(start + i));
            }
        }
    }

    /** Writes the score into the output. */
    private static final class Printer {
        private final Score score;
        private final Bytes output;
        private final boolean brief;
        private int tick;
        private int running;

        Printer(Score score, Bytes output, boolean brief) {
            this.score = score;
            this.output = output;
            this.brief = brief;
        }

        void print(int format) {
            int tracks = format == 0 ? 1 : score.tracks;
            output.empty();
            putFixed(HEAD_LETTERS, 4);
            putFixed(HEAD_SIZE, 4);
            putFixed(format, 2);
            putFixed(tracks, 2);
            putFixed(score.division, 2);
            for (int track = 0; track < tracks; track++) {
                putTrack(format == 0 ? NONE : track);
            }
        }

        /** The events of one track, or of all of them for NONE. */
        private void putTrack(int track) {
            tick = 0;
            running = NONE;
            putFixed(TRACK_LETTERS, 4);
            int place = output.size();
            putFixed(0, 4);
            int begin = output.size();
            for (int k = 0; k < score.size; k++) {
                Event e = score.at(k);
                if (e != null && (track == NONE || e.track == track)) {
                    putEvent(e);
                }
            }
            putNumber(0);
            output.put(META);
            output.put(END_KIND);
            putNumber(0);
            // The length is known only now: two bytes hold it, as all output is shorter than 2^16.
            int length = output.size() - begin;
            output.change(place + 2, length >> 8);
            output.change(place + 3, length);
        }

        private void putEvent(Event e) {
            putNumber(e.tick - tick);
            tick = e.tick;
            if (!brief || e.status != running) {
                output.put(e.status);
            }
            running = e.isChannelEvent() ? e.status : NONE;
            if (e.first != NONE) {
                output.put(e.first);
            }
            if (e.second != NONE) {
                output.put(e.second);
            }
            if (e.size != NONE) {
                putNumber(e.size);
            }
            for (int i = 0; i < e.size; i++) {
                output.put(score.data.at(e.start + i));
            }
        }

        private void putFixed(int value, int bytes) {
            for (int i = bytes - 1; i >= 0; i--) {
                output.put(value >> (8 * i));
            }
        }

        private void putNumber(int value) {
            for (int shift = 21; shift > 0; shift -= 7) {
                if (value >> shift > 0) {
                    output.put(value >> shift | 128);
                }
            }
            output.put(value & 127);
        }
    }
}
