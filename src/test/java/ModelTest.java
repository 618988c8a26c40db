import java.util.ArrayList;
import java.util.List;
import java.util.Random;

/** All promises: long runs of calls, each answered by the class and by the model alike. */
public final class ModelTest {
    private static final Check CHECK = new Check("model");
    private static final int[] EDGES = {0, -1, 1, 2, 16, 17, 127, 128, 1000, 100000, 100001,
        (1 << 28) - 1, 1 << 28, Integer.MAX_VALUE, Integer.MIN_VALUE};

    private final Random random;
    private final int run;
    private MidiDesk desk = new MidiDesk();
    private Model model = new Model();

    private ModelTest(int run) {
        this.run = run;
        random = new Random(run);
    }

    public static void main(String[] args) {
        int runs = args.length > 0 ? Integer.parseInt(args[0]) : 1500;
        for (int run = 0; run < runs; run++) {
            new ModelTest(run).oneRun();
        }
        CHECK.close();
    }

    private void oneRun() {
        for (int part = 0; part < 5; part++) {
            feedFile();
            due("read()", () -> desk.read(), () -> model.read());
            for (int i = 0; i < 30; i++) {
                anyCall();
            }
            whole();
        }
    }

    private void due(String call, Check.Call a, Check.Call b) {
        CHECK.due("run " + run + ": " + call, Check.thrown(a), Check.thrown(b));
    }

    private void feed(long bytes, int n) {
        due("feed(" + bytes + ", " + n + ")", () -> desk.feed(bytes, n), () -> model.feed(bytes, n));
    }

    private int pick(int... of) {
        return of[random.nextInt(of.length)];
    }

    private int edge() {
        return EDGES[random.nextInt(EDGES.length)];
    }

    private void number(List<Integer> to, int value) {
        int sevens = value < 1 << 7 ? 1 : value < 1 << 14 ? 2 : value < 1 << 21 ? 3 : 4;
        if (random.nextInt(8) == 0) {
            sevens = Math.min(4, sevens + 1);
        }
        for (int i = sevens - 1; i >= 0; i--) {
            to.add(value >> (7 * i) & 127 | (i > 0 ? 128 : 0));
        }
    }

    private int delta() {
        switch (random.nextInt(12)) {
            case 0: return random.nextInt(1 << 14);
            case 1: return random.nextInt(40) == 0 ? random.nextInt(1 << 28) : random.nextInt(1 << 20);
            case 2: return random.nextInt(200);
            case 3: case 4: case 5: return 0;
            default: return random.nextInt(12);
        }
    }

    private void track(List<Integer> to, int many) {
        int before = 0;
        for (int i = 0; i < many; i++) {
            number(to, delta());
            int status = pick(0x90, 0x90, 0x91, 0x80, 0x81, 0xA0, 0xB3, 0xC0, 0xDF, 0xEF, 0xF0, 0xF7,
                    0xFF, 0xFF, 0xFF);
            if (status != before || status >= 0xF0 || random.nextBoolean()) {
                to.add(status);
            }
            before = status;
            if (status < 0xF0) {
                to.add(pick(60, 61, 62, 0, 127, random.nextInt(128)));
                if (status < 0xC0 || status >= 0xE0) {
                    to.add(pick(0, 0, 1, 64));
                }
                continue;
            }
            int kind = status == 0xFF ? pick(0x51, 0x51, 0, 1, 0x7F) : -1;
            if (kind >= 0) {
                to.add(kind);
            }
            int size = kind == 0x51 ? 3 : random.nextInt(30) == 0 ? random.nextInt(200) : random.nextInt(4);
            number(to, size);
            for (int j = 0; j < size; j++) {
                to.add(kind == 0x51 && j == 2 ? 1 + random.nextInt(255) : random.nextInt(256));
            }
        }
        number(to, delta());
        to.addAll(List.of(0xFF, 0x2F));
        number(to, 0);
    }

    private static void chunk(List<Integer> to, String letters, List<Integer> body) {
        for (char c : letters.toCharArray()) {
            to.add((int) c);
        }
        to.addAll(List.of(0, 0, body.size() / 256, body.size() % 256));
        to.addAll(body);
    }

    private void feedFile() {
        int format = random.nextInt(3);
        int tracks = format == 0 ? 1 : random.nextInt(4) == 0 ? 1 + random.nextInt(16) : 1 + random.nextInt(3);
        int division = pick(96, 1, 480, 32767, 7, 0xE728, 0xE328, 0xE3FF, 0xE807, 0xE250);
        List<Integer> all = new ArrayList<>();
        chunk(all, "MThd", List.of(0, format, 0, tracks, division / 256, division % 256));
        for (int i = 0; i < tracks; i++) {
            List<Integer> body = new ArrayList<>();
            track(body, random.nextInt(60) == 0 ? 400 : random.nextInt(12));
            if (random.nextInt(15) == 0) {
                chunk(all, "Xtra", List.of(1, 2, 3));
            }
            chunk(all, "MTrk", body);
        }
        spoil(all);
        for (int at = 0; at < all.size();) {
            int n = Math.min(1 + random.nextInt(8), all.size() - at);
            long value = random.nextLong();
            for (int i = 0; i < n; i++) {
                value = value << 8 | all.get(at++);
            }
            feed(value, n);
        }
    }

    private void spoil(List<Integer> all) {
        if (random.nextInt(5) < 3) {
            return;
        }
        int at = random.nextInt(all.size());
        switch (random.nextInt(5)) {
            case 0: all.subList(at, all.size()).clear(); break;
            case 1: all.remove(at); break;
            case 2: all.add(at, random.nextInt(256)); break;
            case 3: all.set(random.nextInt(Math.min(24, all.size())), random.nextInt(256)); break;
            default: all.set(at, pick(random.nextInt(256), 0, 0x80, 0xFF, 0x2F, 0x51, 0xF4));
        }
    }

    private void anyCall() {
        int k = random.nextInt(10) == 0 ? edge() : random.nextInt(20) - 1;
        int i = random.nextInt(10) == 0 ? edge() : random.nextInt(8) - 1;
        int t = pick(edge(), random.nextInt(1 << 28), random.nextInt(3000), random.nextInt(40));
        boolean brief = random.nextBoolean();
        switch (random.nextInt(17)) {
            case 0: feed(random.nextLong(), random.nextInt(12) - 1); break;
            case 1: due("event(" + k + ", " + i + ")", () -> desk.event(k, i), () -> model.event(k, i)); break;
            case 2: due("byteOf(" + k + ", " + i + ")", () -> desk.byteOf(k, i), () -> model.byteOf(k, i)); break;
            case 3: case 4: due("time(" + t + ")", () -> desk.time(t), () -> model.time(t)); break;
            case 5: case 6: due("rest(" + t + ")", () -> desk.rest(t), () -> model.rest(t)); break;
            case 7: due("length(" + k + ")", () -> desk.length(k), () -> model.length(k)); break;
            case 8: case 9: transpose(); break;
            case 10: grid(); break;
            case 11: {
                int track = random.nextInt(3) == 0 ? k : 20;
                due("clear(" + track + ")", () -> desk.clear(track), () -> model.clear(track));
                break;
            }
            case 12: {
                int format = random.nextInt(5) - 1;
                due("write(" + format + ", " + brief + ")", () -> desk.write(format, brief),
                        () -> model.write(format, brief));
                break;
            }
            case 13: due("written(" + t + ")", () -> desk.written(t), () -> model.written(t)); break;
            case 14: due("back()", () -> desk.back(), () -> model.back()); break;
            case 15:
                if (random.nextInt(4) == 0) {
                    due("read()", () -> desk.read(), () -> model.read());
                }
                break;
            default: due("count(" + i + ")", () -> desk.count(i), () -> model.count(i));
        }
    }

    private void transpose() {
        int channel = pick(edge(), 16, random.nextInt(16), 0, 1);
        int by = pick(edge(), random.nextInt(11) - 5, random.nextInt(256) - 128);
        due("transpose(" + channel + ", " + by + ")", () -> desk.transpose(channel, by),
                () -> model.transpose(channel, by));
    }

    private void grid() {
        int step = pick(edge(), 1 + random.nextInt(10), 1 + random.nextInt(1000), 1 + random.nextInt(100000));
        due("grid(" + step + ")", () -> desk.grid(step), () -> model.grid(step));
    }

    /** Everything that can be asked. */
    private void whole() {
        for (int what = -1; what < 11; what++) {
            int w = what;
            due("count(" + w + ")", () -> desk.count(w), () -> model.count(w));
        }
        for (int k = -1; k <= model.count(1); k++) {
            int place = k;
            for (int what = -1; what < 7; what++) {
                int w = what;
                due("event(" + place + ", " + w + ")", () -> desk.event(place, w), () -> model.event(place, w));
            }
            for (int i = -1; i <= Math.max(0, model.event(k, 5)); i++) {
                int at = i;
                due("byteOf(" + place + ", " + at + ")", () -> desk.byteOf(place, at), () -> model.byteOf(place, at));
            }
            due("length(" + place + ")", () -> desk.length(place), () -> model.length(place));
        }
        for (int i = -1; i <= model.count(8); i++) {
            int at = i;
            due("written(" + at + ")", () -> desk.written(at), () -> model.written(at));
        }
    }
}
