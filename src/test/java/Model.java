import java.io.ByteArrayOutputStream;
import java.math.BigInteger;
import java.util.ArrayList;
import java.util.Comparator;
import java.util.List;

/** The document told a second time, as plainly as can be and with the whole library, to test against. */
final class Model {
    record Note(int tick, int track, int status, int first, int second, List<Integer> data) {
        boolean begins() {
            return status >= 0x90 && status <= 0x9F && second > 0;
        }

        boolean ends() {
            return status >= 0x80 && status <= 0x8F || status >= 0x90 && status <= 0x9F && second == 0;
        }

        boolean isTempo() {
            return status == 0xFF && first == 0x51;
        }

        Note withTick(int other) {
            return new Note(other, track, status, first, second, data);
        }

        Note up(int by) {
            return new Note(tick, track, status, first + by, second, data);
        }
    }

    static final class Fault extends RuntimeException {
        private static final long serialVersionUID = 1L;
        final int code;

        Fault(int kind, int place) {
            code = kind + 16 * place;
        }
    }

    List<Integer> input = new ArrayList<>();
    byte[] output = null;
    List<Note> list = null;
    int format;
    int tracks;
    int division;

    private int pos;
    private int events;
    private int dataBytes;

    int feed(long bytes, int n) {
        if (n < 1 || n > 8 || input.size() + n > 12000) {
            return -1;
        }
        for (int i = n - 1; i >= 0; i--) {
            input.add((int) (bytes >> (8 * i) & 255));
        }
        return input.size();
    }

    int read() {
        list = null;
        try {
            List<Note> found = readFile();
            found.sort(Comparator.comparingInt(Note::tick).thenComparingInt(Note::track));
            list = found;
            return 0;
        } catch (Fault f) {
            return f.code;
        } finally {
            input = new ArrayList<>();
        }
    }

    private long take(int n, int end) {
        if (pos + n > end) {
            throw new Fault(1, end);
        }
        long value = 0;
        for (int i = 0; i < n; i++) {
            value = value * 256 + input.get(pos++);
        }
        return value;
    }

    private static void must(boolean holds, int kind, int place) {
        if (!holds) {
            throw new Fault(kind, place);
        }
    }

    private List<Note> readFile() {
        int size = input.size();
        pos = 0;
        events = 0;
        dataBytes = 0;
        must(take(4, size) == 0x4D546864L, 2, 0);
        must(take(4, size) == 6, 2, 4);
        format = (int) take(2, size);
        must(format < 3, 3, 8);
        tracks = (int) take(2, size);
        must(tracks > 0 && tracks < 17 && (format > 0 || tracks == 1), 3, 10);
        division = (int) take(2, size);
        must(List.of(24, 25, 29, 30).contains(256 - division / 256) ? division % 256 != 0
                : division > 0 && division < 32768, 3, 12);
        List<Note> found = new ArrayList<>();
        int track = 0;
        while (pos < size) {
            int at = pos;
            boolean is = take(4, size) == 0x4D54726BL;
            must(!is || track < tracks, 10, at);
            long length = take(4, size);
            must(pos + length <= size, 1, size);
            if (is) {
                readTrack(track++, pos + (int) length, found);
            } else {
                pos += (int) length;
            }
        }
        must(track == tracks, 10, size);
        return found;
    }

    private int readNumber(int end) {
        int at = pos;
        int value = 0;
        for (int i = 0; i < 4; i++) {
            int b = (int) take(1, end);
            value = value * 128 + b % 128;
            if (b < 128) {
                return value;
            }
        }
        throw new Fault(4, at);
    }

    private int readLow(int end) {
        int b = (int) take(1, end);
        must(b < 128, 6, pos - 1);
        return b;
    }

    private void readTrack(int track, int end, List<Note> found) {
        int tick = 0;
        int before = 0;
        while (true) {
            int at = pos;
            tick += readNumber(end);
            must(tick < 1 << 28, 11, at);
            int place = pos;
            int status = (int) take(1, end);
            if (status < 128) {
                must(before >= 0x80 && before < 0xF0, 5, place);
                status = before;
                pos = place;
            }
            must(status <= 0xF0 || status == 0xF7 || status == 0xFF, 5, place);
            before = status;
            int first = -1;
            int second = -1;
            List<Integer> data = null;
            if (status < 0xF0) {
                first = readLow(end);
                second = status >= 0xC0 && status < 0xE0 ? -1 : readLow(end);
            } else {
                first = status == 0xFF ? readLow(end) : -1;
                int numberAt = pos;
                int many = readNumber(end);
                if (first == 0x2F) {
                    must(many == 0, 7, numberAt);
                    must(pos == end, 7, pos);
                    return;
                }
                must(first != 0x51 || many == 3, 8, numberAt);
                int dataAt = pos;
                data = new ArrayList<>();
                for (int i = 0; i < many; i++) {
                    data.add((int) take(1, end));
                }
                must(first != 0x51 || !data.equals(List.of(0, 0, 0)), 8, dataAt);
                dataBytes += many;
            }
            events++;
            must(events <= 1000 && dataBytes <= 8000, 9, place);
            found.add(new Note(tick, track, status, first, second, data));
        }
    }

    int event(int k, int what) {
        if (list == null || k < 0 || k >= list.size()) {
            return -1;
        }
        Note e = list.get(k);
        int[] values = {e.tick, e.track, e.status, e.first, e.second,
            e.data == null ? -1 : e.data.size()};
        return what >= 0 && what < 6 ? values[what] : -1;
    }

    int byteOf(int k, int i) {
        int many = event(k, 5);
        return i >= 0 && i < many ? list.get(k).data.get(i) : -1;
    }

    private void needs(boolean good) {
        if (list == null) {
            throw new IllegalStateException();
        }
        if (!good) {
            throw new IllegalArgumentException();
        }
    }

    private int frames() {
        return division < 32768 ? 0 : 256 - division / 256;
    }

    private int parts() {
        int frames = frames();
        int ticks = division % 256;
        return frames == 0 ? division : frames == 29 ? 3 * ticks : frames * ticks;
    }

    /** Microseconds as a fraction: for ticks the tempo of each tick below t is found by itself. */
    private BigInteger[] fraction(int t) {
        if (frames() == 29) {
            return new BigInteger[] {BigInteger.valueOf(t).multiply(BigInteger.valueOf(1001_000_000L)),
                BigInteger.valueOf(30000L * (division % 256))};
        }
        if (frames() > 0) {
            return new BigInteger[] {BigInteger.valueOf(t).multiply(BigInteger.valueOf(1000_000L)),
                BigInteger.valueOf((long) frames() * (division % 256))};
        }
        BigInteger sum = BigInteger.ZERO;
        int from = 0;
        while (from < t) {
            int tempo = 500000;
            int next = t;
            for (Note e : list) {
                if (e.isTempo() && (format != 2 || e.track == 0)) {
                    if (e.tick <= from) {
                        tempo = e.data.get(0) * 65536 + e.data.get(1) * 256 + e.data.get(2);
                    } else {
                        next = Math.min(next, e.tick);
                    }
                }
            }
            sum = sum.add(BigInteger.valueOf(tempo).multiply(BigInteger.valueOf(next - from)));
            from = next;
        }
        return new BigInteger[] {sum, BigInteger.valueOf(division)};
    }

    long time(int t) {
        needs(t >= 0 && t < 1 << 28);
        BigInteger[] f = fraction(t);
        return f[0].divide(f[1]).longValueExact();
    }

    long rest(int t) {
        needs(t >= 0 && t < 1 << 28);
        BigInteger[] f = fraction(t);
        BigInteger[] all = f[0].mod(f[1]).multiply(BigInteger.valueOf(parts())).divideAndRemainder(f[1]);
        if (all[1].signum() != 0) {
            throw new ArithmeticException("times are not whole in parts");
        }
        return all[0].longValueExact();
    }

    int length(int k) {
        if (list == null || k < 0 || k >= list.size() || !list.get(k).begins()) {
            return -1;
        }
        Note a = list.get(k);
        for (Note b : list.subList(k + 1, list.size())) {
            if (b.ends() && b.track == a.track && b.status % 16 == a.status % 16 && b.first == a.first) {
                return b.tick - a.tick;
            }
        }
        return -1;
    }

    int transpose(int channel, int by) {
        needs(channel >= 0 && channel <= 16);
        List<Note> changed = new ArrayList<>();
        int many = 0;
        for (Note e : list) {
            boolean is = e.status <= 0xAF && (channel == 16 || e.status % 16 == channel);
            if (is && ((long) e.first + by < 0 || (long) e.first + by > 127)) {
                return -1;
            }
            many += is ? 1 : 0;
            changed.add(is ? e.up(by) : e);
        }
        list = changed;
        return many;
    }

    int grid(int step) {
        needs(step >= 1 && step <= 100000);
        List<Note> changed = new ArrayList<>();
        int many = 0;
        for (Note e : list) {
            int low = e.tick - e.tick % step;
            int near = e.tick - low < low + step - e.tick ? low : low + step;
            needs(near < 1 << 28);
            many += near == e.tick ? 0 : 1;
            changed.add(e.withTick(near));
        }
        changed.sort(Comparator.comparingInt(Note::tick).thenComparingInt(Note::track));
        list = changed;
        return many;
    }

    int clear(int track) {
        needs(track >= 0 && track < tracks);
        int before = list.size();
        list.removeIf(e -> e.track == track);
        return before - list.size();
    }

    int write(int form, boolean brief) {
        needs(form >= 0 && form <= 2);
        int many = form == 0 ? 1 : tracks;
        ByteArrayOutputStream all = new ByteArrayOutputStream();
        all.writeBytes(new byte[] {'M', 'T', 'h', 'd', 0, 0, 0, 6, 0, (byte) form, 0, (byte) many,
            (byte) (division / 256), (byte) division});
        for (int track = 0; track < many; track++) {
            ByteArrayOutputStream body = new ByteArrayOutputStream();
            int tick = 0;
            Note ahead = null;
            for (Note e : list) {
                if (form == 0 || e.track == track) {
                    writeNumber(body, e.tick - tick);
                    tick = e.tick;
                    boolean left = brief && ahead != null && ahead.status == e.status && e.status < 0xF0;
                    writeEvent(body, e, left);
                    ahead = e;
                }
            }
            body.writeBytes(new byte[] {0, (byte) 0xFF, 0x2F, 0});
            all.writeBytes(new byte[] {'M', 'T', 'r', 'k', 0, 0, (byte) (body.size() / 256),
                (byte) body.size()});
            all.writeBytes(body.toByteArray());
        }
        output = all.toByteArray();
        return output.length;
    }

    private static void writeEvent(ByteArrayOutputStream body, Note e, boolean left) {
        if (!left) {
            body.write(e.status);
        }
        if (e.status < 0xF0 || e.status == 0xFF) {
            body.write(e.first);
        }
        if (e.second >= 0) {
            body.write(e.second);
        }
        if (e.data != null) {
            writeNumber(body, e.data.size());
            for (int b : e.data) {
                body.write(b);
            }
        }
    }

    private static void writeNumber(ByteArrayOutputStream body, int value) {
        String sevens = "";
        int left = value;
        do {
            sevens = (char) (left % 128) + sevens;
            left /= 128;
        } while (left > 0);
        for (int i = 0; i < sevens.length(); i++) {
            body.write(sevens.charAt(i) + (i < sevens.length() - 1 ? 128 : 0));
        }
    }

    int written(int i) {
        return output == null || i < 0 || i >= output.length ? -1 : output[i] & 255;
    }

    int back() {
        if (output == null || output.length > 12000) {
            return -1;
        }
        input = new ArrayList<>();
        for (byte b : output) {
            input.add(b & 255);
        }
        return input.size();
    }

    int count(int what) {
        List<Note> all = list == null ? List.of() : list;
        boolean none = list == null;
        switch (what) {
            case 0: return input.size();
            case 1: return all.size();
            case 2: return none ? -1 : format;
            case 3: return none ? -1 : tracks;
            case 4: return none ? -1 : division;
            case 5: return all.stream().mapToInt(Note::tick).max().orElse(0);
            case 6: return (int) all.stream().filter(Note::isTempo).count();
            case 7: return (int) all.stream().filter(Note::begins).count();
            case 8: return output == null ? 0 : output.length;
            case 9: return none ? -1 : parts();
            default: return -1;
        }
    }
}
