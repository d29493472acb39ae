import java.util.ArrayList;
import java.util.HashMap;
import java.util.List;
import java.util.Map;
import java.util.NoSuchElementException;
import java.util.TreeSet;

/**
 * The document once more, written for plainness alone and in another way than the class: what is acked or
 * lost is found from the history of the packets, each time that it is asked. ModelTest holds the class
 * against it.
 */
final class Model {
    static final int NONE = -1;

    enum Kind { PING, ACK, STREAM, LIMIT_ALL, LIMIT, RESET, CLOSE }

    static final class Frame {
        final Kind kind;
        int s;
        int place;
        int value;
        boolean end;
        List<Integer> data = new ArrayList<>();
        TreeSet<Integer> acked = new TreeSet<>();
        boolean below0;

        Frame(Kind kind) {
            this.kind = kind;
        }

        int reaches() {
            return kind == Kind.RESET ? value : place + data.size();
        }

        boolean saysSize() {
            return kind == Kind.RESET || end;
        }
    }

    static final class Packet {
        int sender;
        int number;
        List<Frame> frames = new ArrayList<>();
        boolean acked;
        boolean lost;
        int sentAt;
        int lostAt;

        boolean open() {
            return !acked && !lost;
        }

        boolean timed() {
            return frames.stream().anyMatch(f -> f.kind != Kind.ACK && f.kind != Kind.CLOSE);
        }
    }

    static final class Wire {
        final int sender;
        final List<Integer> bytes;

        Wire(int sender, List<Integer> bytes) {
            this.sender = sender;
            this.bytes = bytes;
        }
    }

    static final class Out {
        List<Integer> written = new ArrayList<>();
        boolean finished;
        boolean reset;
        int limit;
    }

    static final class In {
        Map<Integer, Integer> came = new HashMap<>();
        int read;
        int reach;
        int size = NONE;
        boolean reset;
        int given;
        boolean due;
    }

    static final class End {
        Out[] out = {new Out(), new Out(), new Out(), new Out()};
        In[] in = {new In(), new In(), new In(), new In()};
        List<Packet> sent = new ArrayList<>();
        TreeSet<Integer> processed = new TreeSet<>();
        int limitAll;
        int givenAll;
        boolean allDue;
        boolean ackDue;
        boolean probe;
        int b;
        int started;
        int code = NONE;
        boolean closeDue;
    }

    /** What stands in the packet there is no frame. */
    static final class NoFrame extends Exception {
        private static final long serialVersionUID = 1L;
    }

    final int sw;
    final int cw;
    final End[] ends = {new End(), new End()};
    final List<Wire> way = new ArrayList<>();
    final List<Integer> raw = new ArrayList<>();
    int time = 0;
    int clock = 0; // counts sends and losses, to tell which was later

    Model(int streamWindow, int window) {
        sw = 4 + (streamWindow & 0xF);
        cw = 8 + (window & 0x1F);
        for (End e : ends) {
            e.limitAll = cw;
            e.givenAll = cw;
            for (int s = 0; s < 4; s++) {
                e.out[s].limit = sw;
                e.in[s].given = sw;
            }
        }
    }

    static boolean no(int end) {
        return end != 0 && end != 1;
    }

    static boolean no(int end, int stream) {
        return no(end) || stream < 0 || stream > 3;
    }

    int write(int end, int stream, int n, long w) {
        if (no(end, stream) || n < 1 || n > 8) throw new IllegalArgumentException();
        Out o = ends[end].out[stream];
        if (o.finished || o.reset || ends[end].code != NONE || o.written.size() + n > 64) throw new IllegalStateException();
        for (int i = 0; i < n; i++, w >>= 8) o.written.add((int) (w & 0xFF));
        return o.written.size();
    }

    boolean finish(int end, int stream) {
        if (no(end, stream) || ends[end].code != NONE) return false;
        Out o = ends[end].out[stream];
        if (o.finished || o.reset) return false;
        return o.finished = true;
    }

    boolean reset(int end, int stream) {
        if (no(end, stream) || ends[end].code != NONE || ends[end].out[stream].reset) return false;
        return ends[end].out[stream].reset = true;
    }

    int read(int end, int stream) {
        if (no(end, stream)) throw new IllegalArgumentException();
        End e = ends[end];
        In i = e.in[stream];
        if (i.reset) throw new IllegalStateException();
        if (i.size != NONE && i.read == i.size) throw new UnsupportedOperationException();
        if (!i.came.containsKey(i.read)) throw new NoSuchElementException();
        int b = i.came.get(i.read++);
        int target = Math.min(64, i.read + sw);
        if (target > i.given && (target - i.given >= sw / 2 || target == 64)) i.due = true;
        lookAll(e);
        return b;
    }

    void lookAll(End e) {
        int target = allTarget(e);
        if (target > e.givenAll && (target - e.givenAll >= cw / 2 || target == 256)) e.allDue = true;
    }

    int allTarget(End e) {
        int u = 0;
        for (In i : e.in) u += i.reset ? i.size : i.read;
        return Math.min(256, u + cw);
    }

    boolean close(int end, int code) {
        if (no(end) || ends[end].code != NONE || code < 0 || code > 63) return false;
        ends[end].code = code;
        ends[end].closeDue = true;
        return true;
    }

    // ---- what the history says of the streams

    static boolean bears(Packet p, int s, int place) {
        return p.frames.stream().anyMatch(f -> f.kind == Kind.STREAM && f.s == s && f.place <= place && place < f.place + f.data.size());
    }

    static boolean bearsEnd(Packet p, int s) {
        return p.frames.stream().anyMatch(f -> f.kind == Kind.STREAM && f.s == s && f.end);
    }

    static boolean bearsReset(Packet p, int s) {
        return p.frames.stream().anyMatch(f -> f.kind == Kind.RESET && f.s == s);
    }

    /** n not sent, s sent, l lost, a acked. */
    static char fate(List<Packet> bearers) {
        int sentAt = -1;
        int lostAt = -1;
        for (Packet p : bearers) {
            if (p.acked) return 'a';
            sentAt = Math.max(sentAt, p.sentAt);
            if (p.lost) lostAt = Math.max(lostAt, p.lostAt);
        }
        return bearers.isEmpty() ? 'n' : lostAt > sentAt ? 'l' : 's';
    }

    static char byteFate(End e, int s, int place) {
        List<Packet> l = new ArrayList<>();
        for (Packet p : e.sent) if (bears(p, s, place)) l.add(p);
        return fate(l);
    }

    static char endFate(End e, int s) {
        List<Packet> l = new ArrayList<>();
        for (Packet p : e.sent) if (bearsEnd(p, s)) l.add(p);
        return fate(l);
    }

    static char resetFate(End e, int s) {
        List<Packet> l = new ArrayList<>();
        for (Packet p : e.sent) if (bearsReset(p, s)) l.add(p);
        return fate(l);
    }

    static int reachSent(End e, int s) {
        int most = 0;
        for (Packet p : e.sent) {
            for (Frame f : p.frames) {
                if (f.kind == Kind.STREAM && f.s == s && !f.data.isEmpty()) most = Math.max(most, f.place + f.data.size());
            }
        }
        return most;
    }

    // ---- sending

    static void number(List<Integer> to, int v) {
        if (v < 64) {
            to.add(v);
        } else if (v < 16384) {
            to.add(64 + v / 256);
            to.add(v % 256);
        } else {
            to.add(128 + v / 16777216);
            to.add(v / 65536 % 256);
            to.add(v / 256 % 256);
            to.add(v % 256);
        }
    }

    static List<Integer> code(End e, Frame f) {
        List<Integer> c = new ArrayList<>();
        c.add(f.kind.ordinal());
        switch (f.kind) {
            case ACK: codeAck(e, c); break;
            case STREAM:
                number(c, f.s);
                number(c, f.place);
                number(c, f.data.size() * 2 + (f.end ? 1 : 0));
                c.addAll(f.data);
                break;
            case LIMIT_ALL: case CLOSE: number(c, f.value); break;
            case LIMIT: case RESET: number(c, f.s); number(c, f.value); break;
            default: break;
        }
        return c;
    }

    static void codeAck(End e, List<Integer> c) {
        List<int[]> ranges = new ArrayList<>();
        for (int n : e.processed.descendingSet()) {
            if (!ranges.isEmpty() && ranges.get(ranges.size() - 1)[0] == n + 1) ranges.get(ranges.size() - 1)[0] = n;
            else ranges.add(new int[] {n, n});
        }
        while (ranges.size() > 3) ranges.remove(3);
        number(c, ranges.get(0)[1]);
        number(c, ranges.get(0)[1] - ranges.get(0)[0]);
        number(c, ranges.size() - 1);
        for (int i = 1; i < ranges.size(); i++) {
            number(c, ranges.get(i - 1)[0] - ranges.get(i)[1] - 2);
            number(c, ranges.get(i)[1] - ranges.get(i)[0]);
        }
    }

    static int size(End e, List<Frame> frames) {
        int n = 0;
        for (Frame f : frames) n += code(e, f).size();
        return n;
    }

    /** Puts a frame behind the others if there is room for it. */
    static boolean put(End e, Packet p, Frame f) {
        if (size(e, p.frames) + code(e, f).size() > 37) return false;
        p.frames.add(f);
        return true;
    }

    int send(int end) {
        if (no(end)) return NONE;
        End e = ends[end];
        Packet p = new Packet();
        p.sender = end;
        p.number = e.sent.size();
        if (e.code != NONE) {
            if (!e.closeDue) return NONE;
            e.closeDue = false;
            Frame f = new Frame(Kind.CLOSE);
            f.value = e.code;
            p.frames.add(f);
        } else {
            gather(e, p);
        }
        if (p.frames.isEmpty()) return NONE;
        List<Integer> bytes = new ArrayList<>();
        bytes.add(p.number % 16);
        for (Frame f : p.frames) bytes.addAll(code(e, f));
        seal(bytes, end, p.number);
        if (p.frames.get(0).kind == Kind.ACK) e.ackDue = false;
        p.sentAt = ++clock;
        e.sent.add(p);
        if (p.timed()) {
            e.started = time;
            e.probe = false;
        }
        if (way.size() < 16) way.add(new Wire(end, bytes));
        return bytes.size();
    }

    void gather(End e, Packet p) {
        if (e.ackDue) put(e, p, new Frame(Kind.ACK));
        if (e.allDue) {
            Frame f = new Frame(Kind.LIMIT_ALL);
            f.value = allTarget(e);
            if (put(e, p, f)) {
                e.allDue = false;
                e.givenAll = f.value;
            }
        }
        for (int s = 0; s < 4; s++) {
            if (!e.in[s].due) continue;
            Frame f = new Frame(Kind.LIMIT);
            f.s = s;
            f.value = Math.min(64, e.in[s].read + sw);
            if (put(e, p, f)) {
                e.in[s].due = false;
                e.in[s].given = f.value;
            }
        }
        for (int s = 0; s < 4; s++) {
            char fate = resetFate(e, s);
            if (!e.out[s].reset || fate == 's' || fate == 'a') continue;
            Frame f = new Frame(Kind.RESET);
            f.s = s;
            f.value = reachSent(e, s);
            put(e, p, f);
        }
        boolean onlyAck = p.frames.isEmpty() || p.frames.size() == 1 && p.frames.get(0).kind == Kind.ACK;
        List<Frame> streams = new ArrayList<>();
        for (int s = 0; s < 4; s++) {
            Frame f = streamFrame(e, p, s, streams);
            if (f != null) streams.add(f);
        }
        if (e.probe && onlyAck && streams.isEmpty()) put(e, p, new Frame(Kind.PING));
        p.frames.addAll(streams);
    }

    Frame streamFrame(End e, Packet p, int s, List<Frame> before) {
        Out o = e.out[s];
        if (o.reset) return null;
        int room = 37 - size(e, p.frames) - size(e, before);
        Frame f = new Frame(Kind.STREAM);
        f.s = s;
        boolean anyLost = false;
        boolean allSent = true;
        for (int i = 0; i < o.written.size(); i++) {
            anyLost |= byteFate(e, s, i) == 'l';
            allSent &= byteFate(e, s, i) != 'n';
        }
        char sort = anyLost ? 'l' : 'n';
        int first = 0;
        while (first < o.written.size() && !may(e, s, first, sort, before)) first++;
        f.place = first;
        boolean left = first < o.written.size();
        while (left && f.data.size() < 12 && first + f.data.size() < o.written.size()
                && may(e, s, first + f.data.size(), sort, before) && code(e, f).size() < room) {
            f.data.add(o.written.get(first + f.data.size()));
        }
        f.end = o.finished && first + f.data.size() == o.written.size();
        if (!f.data.isEmpty()) return f;
        char fate = endFate(e, s);
        boolean endOwed = o.finished && (fate == 'n' || fate == 'l') && allSent && !anyLost;
        return !left && endOwed && code(e, f).size() <= room ? f : null;
    }

    boolean may(End e, int s, int place, char sort, List<Frame> before) {
        if (byteFate(e, s, place) != sort) return false;
        if (sort == 'l') return true;
        int sum = 0;
        for (int t = 0; t < 4; t++) {
            int reach = t == s ? place + 1 : reachSent(e, t);
            for (Frame f : before) if (f.s == t) reach = Math.max(reach, f.place + f.data.size());
            sum += reach;
        }
        return place < e.out[s].limit && sum <= e.limitAll;
    }

    static void seal(List<Integer> bytes, int sender, int number) {
        long c = 40503 + sender;
        for (int b : bytes) c = ((c ^ b) * 16777619L) & 0xFFFFFFFFL;
        int seal = (int) (c >> 16) ^ (number & 0xFFFF);
        bytes.add(seal / 256);
        bytes.add(seal % 256);
    }

    // ---- receiving

    int deliver(int k) {
        if (k < 0 || k >= way.size()) return NONE;
        Wire w = way.remove(k);
        return receive(ends[1 - w.sender], w);
    }

    int receive(End e, Wire w) {
        if (e.code != NONE) return 2;
        if (w.bytes.size() < 3 || w.bytes.get(0) > 15) return 1;
        int expected = e.processed.isEmpty() ? 0 : e.processed.last() + 1;
        int number = -1;
        for (int n = w.bytes.get(0); n < expected + 40; n += 16) {
            if (number < 0 || Math.abs(n - expected) <= Math.abs(number - expected)) number = n;
        }
        List<Integer> sealed = new ArrayList<>(w.bytes.subList(0, w.bytes.size() - 2));
        seal(sealed, w.sender, number);
        if (!sealed.equals(w.bytes) || !e.processed.add(number)) return 1;
        process(e, w.bytes.subList(1, w.bytes.size() - 2));
        return 0;
    }

    void process(End e, List<Integer> bytes) {
        int[] at = {0};
        while (at[0] < bytes.size() && e.code == NONE) {
            Frame f;
            try {
                f = parse(bytes, at);
            } catch (NoFrame x) {
                e.code = 1;
                e.closeDue = true;
                return;
            }
            int wrong = fault(e, f);
            if (wrong != 0) {
                e.code = wrong;
                e.closeDue = true;
                return;
            }
            take(e, f);
        }
    }

    static int next(List<Integer> bytes, int[] at) throws NoFrame {
        if (at[0] >= bytes.size()) throw new NoFrame();
        return bytes.get(at[0]++);
    }

    static int number(List<Integer> bytes, int[] at) throws NoFrame {
        int a = next(bytes, at);
        if (a < 64) return a;
        if (a < 128) return (a - 64) * 256 + next(bytes, at);
        if (a >= 192) throw new NoFrame();
        int v = a - 128;
        for (int i = 0; i < 3; i++) v = v << 8 | next(bytes, at);
        return v;
    }

    static Frame parse(List<Integer> bytes, int[] at) throws NoFrame {
        int kind = next(bytes, at);
        if (kind > 6) throw new NoFrame();
        Frame f = new Frame(Kind.values()[kind]);
        switch (f.kind) {
            case ACK: parseAck(f, bytes, at); break;
            case STREAM:
                f.s = number(bytes, at);
                f.place = number(bytes, at);
                int k = number(bytes, at);
                if (k / 2 > 40) throw new NoFrame();
                for (int i = 0; i < k / 2; i++) f.data.add(next(bytes, at));
                f.end = (k & 1) == 1;
                break;
            case LIMIT_ALL: case CLOSE: f.value = number(bytes, at); break;
            case LIMIT: case RESET: f.s = number(bytes, at); f.value = number(bytes, at); break;
            default: break;
        }
        return f;
    }

    static void parseAck(Frame f, List<Integer> bytes, int[] at) throws NoFrame {
        long high = number(bytes, at);
        long low = high - number(bytes, at);
        int r = number(bytes, at);
        if (r > 2) throw new NoFrame();
        range(f, low, high);
        for (int i = 0; i < r; i++) {
            high = low - number(bytes, at) - 2;
            low = high - number(bytes, at);
            range(f, low, high);
        }
    }

    static void range(Frame f, long low, long high) {
        if (low < 0) f.below0 = true;
        // Far numbers are never sent: the nearest and the farthest of a range tell as much.
        f.acked.add((int) Math.max(high, -9));
        for (long n = Math.max(low, 0); n <= high && n < 2000; n++) f.acked.add((int) n);
    }

    int fault(End e, Frame f) {
        boolean ofStream = f.kind == Kind.STREAM || f.kind == Kind.RESET;
        if ((ofStream || f.kind == Kind.LIMIT) && f.s > 3) return 2;
        if (ofStream) {
            In in = e.in[f.s];
            int sum = 0;
            for (int t = 0; t < 4; t++) sum += t == f.s ? Math.max(e.in[t].reach, f.reaches()) : e.in[t].reach;
            if (f.reaches() > in.given || sum > e.givenAll) return 3;
            if (f.saysSize() && f.reaches() < in.reach) return 4;
            if (in.size != NONE && f.saysSize() && f.reaches() != in.size) return 4;
            if (in.size != NONE && f.reaches() > in.size) return 4;
        }
        if (f.kind == Kind.ACK && (f.below0 || f.acked.last() >= e.sent.size())) return 5;
        return 0;
    }

    void take(End e, Frame f) {
        if (f.kind != Kind.ACK && f.kind != Kind.CLOSE) e.ackDue = true;
        switch (f.kind) {
            case CLOSE: e.code = f.value; break;
            case LIMIT_ALL: e.limitAll = Math.max(e.limitAll, f.value); break;
            case LIMIT: e.out[f.s].limit = Math.max(e.out[f.s].limit, f.value); break;
            case ACK: takeAck(e, f); break;
            case STREAM: case RESET:
                In in = e.in[f.s];
                for (int i = 0; i < f.data.size() && !in.reset; i++) in.came.putIfAbsent(f.place + i, f.data.get(i));
                in.reach = Math.max(in.reach, f.reaches());
                if (f.saysSize()) in.size = f.reaches();
                if (f.kind == Kind.RESET) {
                    in.reset = true;
                    lookAll(e);
                }
                break;
            default: break;
        }
    }

    void takeAck(End e, Frame f) {
        for (int n : f.acked) {
            if (e.sent.get(n).open()) {
                e.sent.get(n).acked = true;
                e.b = 0;
            }
        }
        for (Packet p : e.sent) {
            boolean passed = e.sent.stream().anyMatch(q -> q.acked && q.number >= p.number + 3);
            if (p.open() && passed) losePacket(e, p);
        }
    }

    void losePacket(End e, Packet p) {
        p.lost = true;
        p.lostAt = ++clock;
        for (Frame f : p.frames) {
            if (f.kind == Kind.LIMIT_ALL && isLatest(e, p, f)) e.allDue = true;
            if (f.kind == Kind.LIMIT && isLatest(e, p, f)) e.in[f.s].due = true;
        }
    }

    static boolean isLatest(End e, Packet p, Frame f) {
        for (Packet q : e.sent) {
            if (q.number > p.number && q.frames.stream().anyMatch(g -> g.kind == f.kind && g.s == f.s)) return false;
        }
        return true;
    }

    // ---- the network and the timer

    boolean lose(int k) {
        if (k < 0 || k >= way.size()) return false;
        way.remove(k);
        return true;
    }

    boolean copy(int k) {
        if (k < 0 || k >= way.size() || way.size() == 16) return false;
        way.add(new Wire(way.get(k).sender, new ArrayList<>(way.get(k).bytes)));
        return true;
    }

    boolean spoil(int k, int place, int bits) {
        if (k < 0 || k >= way.size() || bits < 1 || bits > 255) return false;
        List<Integer> bytes = way.get(k).bytes;
        if (place < 0 || place >= bytes.size()) return false;
        bytes.set(place, bytes.get(place) ^ bits);
        return true;
    }

    int raw(int n, long w) {
        if (n < 1 || n > 8 || raw.size() + n > 37) return NONE;
        for (int i = 0; i < n; i++, w >>= 8) raw.add((int) (w & 0xFF));
        return raw.size();
    }

    int craft(int end, int number) {
        if (no(end) || number < 0 || number > 9999) return NONE;
        List<Integer> bytes = new ArrayList<>();
        bytes.add(number % 16);
        bytes.addAll(raw);
        raw.clear();
        seal(bytes, 1 - end, number);
        return receive(ends[end], new Wire(1 - end, bytes));
    }

    int tick() {
        time++;
        for (End e : ends) {
            if (e.code != NONE || time < e.started + 6 * (1 << e.b)) continue;
            for (Packet p : e.sent) {
                if (p.open() && p.timed()) {
                    losePacket(e, p);
                    e.probe = true;
                    e.b = Math.min(3, e.b + 1);
                    e.started = time;
                    break;
                }
            }
        }
        return time;
    }

    // ---- questions

    int packets() {
        return way.size();
    }

    int packet(int k, int i) {
        if (k < 0 || k >= way.size()) return NONE;
        Wire w = way.get(k);
        if (i == -1) return w.bytes.size();
        if (i == -2) return w.sender;
        return i < 0 || i >= w.bytes.size() ? NONE : w.bytes.get(i);
    }

    int closed(int end) {
        return no(end) ? NONE : ends[end].code;
    }

    int about(int end, int what) {
        if (no(end)) return NONE;
        End e = ends[end];
        switch (what) {
            case 0: return e.sent.size();
            case 1: return (int) e.sent.stream().filter(p -> p.open() && p.timed()).count();
            case 2: return e.limitAll;
            case 3: return e.givenAll;
            case 4: return e.processed.isEmpty() ? NONE : e.processed.last();
            case 5: return e.b;
            default: return NONE;
        }
    }

    int stream(int end, int stream, int what) {
        if (no(end, stream)) return NONE;
        End e = ends[end];
        Out o = e.out[stream];
        In in = e.in[stream];
        int acked = 0;
        for (int i = 0; i < o.written.size(); i++) if (byteFate(e, stream, i) == 'a') acked++;
        switch (what) {
            case 0: return o.written.size();
            case 1: return reachSent(e, stream);
            case 2: return acked;
            case 3: return o.limit;
            case 4: return resetFate(e, stream) == 'a' || endFate(e, stream) == 'a' && acked == o.written.size() ? 1 : 0;
            case 5: return in.read;
            case 6:
                int n = 0;
                while (!in.reset && in.came.containsKey(in.read + n)) n++;
                return n;
            case 7: return in.size;
            case 8: return in.given;
            default: return NONE;
        }
    }
}
