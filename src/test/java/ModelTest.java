import java.util.Random;

/**
 * Runs of calls drawn by lot (from fixed seeds), each answer held against the model's. What a run needs to
 * know to be drawn it asks the model, so that the object keeps to its 512 calls.
 */
final class ModelTest {
    private static final int RUNS = 1500;
    private static final int CALLS = 512;

    private final Random random;
    private final StreamTransport x;
    private final Model m;
    private final StringBuilder calls = new StringBuilder();
    private final boolean crafts;
    private final boolean wild;
    private final int lossy;
    private int left = CALLS;
    private boolean same = true;

    private ModelTest(int seed) {
        random = new Random(seed);
        int streamWindow = random.nextInt(4) == 0 ? random.nextInt() : random.nextInt(16);
        int window = random.nextInt(4) == 0 ? random.nextInt() : random.nextInt(32);
        x = new StreamTransport(streamWindow, window);
        m = new Model(streamWindow, window);
        crafts = seed % 3 == 1;
        wild = seed % 5 == 1;
        lossy = random.nextInt(5);
        calls.append("seed ").append(seed).append(": new(").append(streamWindow).append(", ").append(window).append(")\n");
    }

    public static void main(String[] args) {
        int runs = args.length > 0 ? Integer.parseInt(args[0]) : RUNS;
        for (int seed = 0; seed < runs; seed++) {
            ModelTest run = new ModelTest(seed);
            run.play();
            if (!run.same) {
                System.out.println(run.calls);
                Check.due("the run of seed " + seed + " is as the model's", false, true);
                break;
            }
        }
        Check.done();
    }

    private void play() {
        while (left > 0 && same) {
            step();
            int questions = random.nextInt(3);
            for (int i = 0; i < questions && left > 0 && same; i++) {
                ask();
            }
        }
    }

    private int end() {
        return wild && random.nextInt(20) == 0 ? odd() : random.nextInt(2);
    }

    private int number(int bound) {
        return wild && random.nextInt(20) == 0 ? odd() : random.nextInt(bound);
    }

    private int odd() {
        int[] odd = {-1, -2, 2, 4, 5, 16, 64, 10000, Integer.MAX_VALUE, Integer.MIN_VALUE};
        return odd[random.nextInt(odd.length)];
    }

    private int some() {
        return Math.max(1, m.packets());
    }

    private void step() {
        int lot = random.nextInt(100);
        if (lot < 16) {
            write();
        } else if (lot < 18) {
            int e = end(), s = number(4);
            look("finish(" + e + ", " + s + ")", x.finish(e, s), m.finish(e, s));
        } else if (lot < 19) {
            int e = end(), s = number(4);
            look("reset(" + e + ", " + s + ")", x.reset(e, s), m.reset(e, s));
        } else if (lot < 40) {
            read();
        } else if (lot < 62) {
            int e = end();
            look("send(" + e + ")", x.send(e), m.send(e));
        } else if (lot < 84) {
            int k = number(some());
            look("deliver(" + k + ")", x.deliver(k), m.deliver(k));
        } else if (lot < 84 + lossy) {
            int k = number(some());
            look("lose(" + k + ")", x.lose(k), m.lose(k));
        } else if (lot < 90) {
            spoilOrCopy();
        } else if (lot < 97) {
            look("tick()", x.tick(), m.tick());
        } else if (crafts) {
            craft();
        } else if (random.nextInt(60) == 0) {
            int e = end(), c = number(70);
            look("close(" + e + ", " + c + ")", x.close(e, c), m.close(e, c));
        } else {
            for (int i = 0; i < 8 && left > 0; i++) {
                look("tick()", x.tick(), m.tick());
            }
        }
    }

    private void write() {
        int e = end(), s = number(4), n = wild ? number(10) : 1 + random.nextInt(8);
        long w = random.nextLong();
        look("write(" + e + ", " + s + ", " + n + ", " + w + ")",
            Check.answer(() -> x.write(e, s, n, w)), Check.answer(() -> m.write(e, s, n, w)));
    }

    private void read() {
        int e = end(), s = number(4);
        int times = 1 + random.nextInt(4);
        for (int i = 0; i < times && left > 0; i++) {
            look("read(" + e + ", " + s + ")", Check.answer(() -> x.read(e, s)), Check.answer(() -> m.read(e, s)));
        }
    }

    private void spoilOrCopy() {
        int k = number(some());
        if (random.nextInt(3) > 0) {
            look("copy(" + k + ")", x.copy(k), m.copy(k));
            return;
        }
        int place = number(Math.max(1, m.packet(k, -1)));
        int bits = number(256);
        look("spoil(" + k + ", " + place + ", " + bits + ")", x.spoil(k, place, bits), m.spoil(k, place, bits));
    }

    private void craft() {
        int e = random.nextInt(2);
        int frames = random.nextInt(4);
        for (int i = 0; i < frames; i++) {
            frame(e);
        }
        int near = m.about(e, 4) + 1 + (random.nextInt(3) == 0 ? random.nextInt(20) - 8 : random.nextInt(2));
        int to = wild ? end() : e;
        int number = wild ? number(10001) : Math.max(0, near);
        look("craft(" + to + ", " + number + ")", x.craft(to, number), m.craft(to, number));
    }

    /** Bytes of a frame for an end, mostly a right one. */
    private void frame(int e) {
        switch (random.nextInt(9)) {
            case 0: raw(0); break;
            case 1: ack(e); break;
            case 2: data(e); break;
            case 3: raw(3); code(random.nextInt(300)); break;
            case 4: raw(4); code(random.nextInt(random.nextInt(8) == 0 ? 6 : 4)); code(random.nextInt(80)); break;
            case 5: if (random.nextInt(3) == 0) reset(e); break;
            case 6: if (random.nextInt(12) == 0) { raw(6); code(random.nextInt(1 << random.nextInt(30))); } break;
            case 7: if (random.nextInt(12) == 0) raw(random.nextInt(256)); break;
            default: if (random.nextInt(4) == 0) data(e); else ack(e); break;
        }
    }

    private void ack(int e) {
        int next = m.about(e, 0);
        int l = random.nextInt(15) == 0 ? next : Math.max(0, next - 1 - random.nextInt(4));
        int f = random.nextInt(15) == 0 ? l + 1 : random.nextInt(Math.min(l, 3) + 1);
        int least = l - f;
        raw(1);
        code(l);
        code(f);
        int r = least < 4 ? 0 : random.nextInt(random.nextInt(10) == 0 ? 4 : 3);
        code(r);
        for (int i = 0; i < r; i++) {
            int g = random.nextInt(2);
            int n = random.nextInt(3);
            code(g);
            code(n);
        }
    }

    private void data(int e) {
        int s = random.nextInt(20) == 0 ? random.nextInt(8) : random.nextInt(4);
        int from = s > 3 ? 0 : Math.max(0, m.stream(e, s, 5) + random.nextInt(6) - 2);
        int n = random.nextInt(5);
        int k = 2 * n + (random.nextInt(6) == 0 ? 1 : 0);
        raw(2);
        code(s);
        code(from);
        code(k);
        for (int i = 0; i < n; i++) {
            raw(random.nextInt(256));
        }
    }

    private void reset(int e) {
        int s = random.nextInt(4);
        int size = m.stream(e, s, 7);
        raw(5);
        code(s);
        code(size >= 0 && random.nextInt(4) > 0 ? size : random.nextInt(12) + m.stream(e, s, 5));
    }

    private void code(int v) {
        int form = random.nextInt(8);
        if (v < 64 && form > 1) {
            raw(v);
        } else if (v < 16384 && form > 0) {
            raw(64 + v / 256);
            raw(v % 256);
        } else {
            raw(128 + (v >>> 24));
            raw(v >>> 16 & 255);
            raw(v >>> 8 & 255);
            raw(v & 255);
        }
    }

    private void raw(int b) {
        if (left > 1) {
            look("raw(1, " + b + ")", x.raw(1, b), m.raw(1, b));
        }
    }

    private void ask() {
        int e = end();
        switch (random.nextInt(5)) {
            case 0: {
                int what = number(6);
                look("about(" + e + ", " + what + ")", x.about(e, what), m.about(e, what));
                break;
            }
            case 1: case 2: {
                int s = number(4);
                int what = number(9);
                look("stream(" + e + ", " + s + ", " + what + ")", x.stream(e, s, what), m.stream(e, s, what));
                break;
            }
            case 3: {
                int k = number(some());
                int i = random.nextInt(43) - 3;
                look("packet(" + k + ", " + i + ")", x.packet(k, i), m.packet(k, i));
                break;
            }
            default:
                if (random.nextBoolean()) {
                    look("closed(" + e + ")", x.closed(e), m.closed(e));
                } else {
                    look("packets()", x.packets(), m.packets());
                }
                break;
        }
    }

    private void look(String call, boolean got, boolean want) {
        look(call, got ? 1 : 0, want ? 1 : 0);
    }

    private void look(String call, long got, long want) {
        left--;
        calls.append(call).append(" -> ").append(got).append('\n');
        if (got != want) {
            calls.append("  the model says ").append(want).append('\n');
            same = false;
        }
    }
}
