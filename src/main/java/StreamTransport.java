import java.util.Arrays;
import java.util.NoSuchElementException;

/**
 * Two ends and the network between them: the ends exchange streams of bytes in sealed packets, and the
 * caller decides what becomes of each packet that is under way.
 */
public final class StreamTransport {
    /** There is none, or it can't be done. */
    public static final int NONE = -1;

    private static final int ENDS = 2;
    private static final int STREAMS = 4;
    private static final int STREAM_BYTES = 64;
    private static final int ALL_BYTES = 256;
    private static final int CALL_BYTES = 8;
    private static final int MOST_UNDER_WAY = 16;
    private static final int GREATEST_CODE = 63;
    private static final int GREATEST_CRAFTED = 9999;

    private static final int FRAME_BYTES = 37;
    private static final int SEAL_BYTES = 2;
    private static final int PACKET_BYTES = 1 + FRAME_BYTES + SEAL_BYTES;
    private static final int SHORT_NUMBERS = 16;
    private static final int SEAL_START = 40503;
    private static final int SEAL_FACTOR = 16777619;

    // Each packet that is sent takes a call, and an object has 512 of them.
    private static final int MOST_SENT = 512;
    // Craft's numbers end below this; a multiple of 32, for the bits of the numbers processed.
    private static final int MOST_NUMBERS = 10240;

    private static final int PING = 0;
    private static final int ACK = 1;
    private static final int STREAM = 2;
    private static final int LIMIT_ALL = 3;
    private static final int LIMIT = 4;
    private static final int RESET = 5;
    private static final int CLOSE = 6;

    private static final int MOST_FURTHER_RANGES = 2;
    private static final int ACK_NUMBERS = 3 + 2 * MOST_FURTHER_RANGES;
    private static final int MOST_FRAME_DATA = 12;

    private static final int RIGHT = 0;
    private static final int NO_FRAME = 1;
    private static final int NO_STREAM = 2;
    private static final int BEYOND_LIMIT = 3;
    private static final int WRONG_SIZE = 4;
    private static final int WRONG_ACK = 5;

    private static final int PROCESSED = 0;
    private static final int DROPPED = 1;
    private static final int WAS_CLOSED = 2;

    // What became of a packet, a byte, an end or a reset.
    private static final int FRESH = 0;
    private static final int ON_WAY = 1;
    private static final int LOST = 2;
    private static final int ACKED = 3;

    private static final int OVERTAKEN_BY = 3;
    private static final int TIMER_TICKS = 6;
    private static final int MOST_BACKOFF = 3;

    private final End[] ends = new End[ENDS];
    private final Row[] way = new Row[MOST_UNDER_WAY];
    // Holds a packet that is never under way: a crafted one, or one sent when the way is full.
    private final Row spare = new Row();
    private final int[] rawBytes = new int[FRAME_BYTES];
    private int wayCount;
    private int rawCount;
    private int time;

    public StreamTransport(int streamWindow, int window) {
        for (int end = 0; end < ENDS; end++) {
            ends[end] = new End(end, 4 + (streamWindow & 15), 8 + (window & 31));
        }
        for (int k = 0; k < MOST_UNDER_WAY; k++) {
            way[k] = new Row();
        }
    }

    public int write(int end, int stream, int n, long w) throws IllegalArgumentException, IllegalStateException {
        if (!isStream(end, stream) || !isCallBytes(n)) {
            throw new IllegalArgumentException();
        }
        Outgoing to = ends[end].outflow.streams[stream];
        if (!ends[end].isOpen() || !to.isGrowing() || to.written + n > STREAM_BYTES) {
            throw new IllegalStateException();
        }
        to.append(n, w);
        return to.written;
    }

    public boolean finish(int end, int stream) {
        if (!isStream(end, stream) || !ends[end].isOpen() || !ends[end].outflow.streams[stream].isGrowing()) {
            return false;
        }
        ends[end].outflow.streams[stream].finished = true;
        return true;
    }

    public boolean reset(int end, int stream) {
        if (!isStream(end, stream) || !ends[end].isOpen() || ends[end].outflow.streams[stream].isReset) {
            return false;
        }
        ends[end].outflow.streams[stream].isReset = true;
        return true;
    }

    public int read(int end, int stream) throws IllegalArgumentException, IllegalStateException,
            UnsupportedOperationException, NoSuchElementException {
        if (!isStream(end, stream)) {
            throw new IllegalArgumentException();
        }
        Incoming from = ends[end].intake.streams[stream];
        if (from.isReset) {
            throw new IllegalStateException();
        }
        if (from.taken == from.size) {
            throw new UnsupportedOperationException();
        }
        if (from.ready() == 0) {
            throw new NoSuchElementException();
        }
        return ends[end].intake.takeByte(from);
    }

    public boolean close(int end, int code) {
        if (!isEnd(end) || !ends[end].isOpen() || code < 0 || code > GREATEST_CODE) {
            return false;
        }
        ends[end].shut(code, true);
        return true;
    }

    public int send(int end) {
        if (!isEnd(end)) {
            return NONE;
        }
        boolean isRoom = wayCount < MOST_UNDER_WAY;
        int size = ends[end].makePacket(isRoom ? way[wayCount] : spare, time);
        if (size != NONE && isRoom) {
            wayCount++;
        }
        return size;
    }

    public int deliver(int k) {
        if (!isUnderWay(k)) {
            return NONE;
        }
        Row row = way[k];
        takeOffWay(k);
        return ends[row.sender == 0 ? 1 : 0].receive(row);
    }

    public boolean lose(int k) {
        if (!isUnderWay(k)) {
            return false;
        }
        takeOffWay(k);
        return true;
    }

    public boolean copy(int k) {
        if (!isUnderWay(k) || wayCount >= MOST_UNDER_WAY) {
            return false;
        }
        way[wayCount].become(way[k]);
        wayCount++;
        return true;
    }

    public boolean spoil(int k, int place, int bits) {
        if (!isUnderWay(k) || place < 0 || place >= way[k].size || bits < 1 || bits > 255) {
            return false;
        }
        way[k].bytes[place] ^= bits;
        return true;
    }

    public int raw(int n, long w) {
        if (!isCallBytes(n) || rawCount + n > FRAME_BYTES) {
            return NONE;
        }
        for (int i = 0; i < n; i++) {
            rawBytes[rawCount + i] = byteOf(w, i);
        }
        rawCount += n;
        return rawCount;
    }

    public int craft(int end, int number) {
        if (!isEnd(end) || number < 0 || number > GREATEST_CRAFTED) {
            return NONE;
        }
        spare.begin(end == 0 ? 1 : 0, number);
        for (int i = 0; i < rawCount; i++) {
            spare.put(rawBytes[i]);
        }
        rawCount = 0;
        spare.seal(number);
        return ends[end].receive(spare);
    }

    public int tick() {
        time++;
        for (int end = 0; end < ENDS; end++) {
            ends[end].passTick(time);
        }
        return time;
    }

    public int packets() {
        return wayCount;
    }

    public int packet(int k, int i) {
        if (!isUnderWay(k)) {
            return NONE;
        }
        if (i == -1) {
            return way[k].size;
        }
        if (i == -2) {
            return way[k].sender;
        }
        return i >= 0 && i < way[k].size ? way[k].bytes[i] : NONE;
    }

    public int closed(int end) {
        return isEnd(end) ? ends[end].code : NONE;
    }

    public int about(int end, int what) {
        if (!isEnd(end)) {
            return NONE;
        }
        End of = ends[end];
        switch (what) {
            case 0: return of.next;
            case 1: return of.countOnWay();
            case 2: return of.outflow.limitAll;
            case 3: return of.intake.givenAll;
            case 4: return of.processed.greatest;
            case 5: return of.backoff;
            default: return NONE;
        }
    }

    public int stream(int end, int stream, int what) {
        if (!isStream(end, stream)) {
            return NONE;
        }
        Outgoing out = ends[end].outflow.streams[stream];
        Incoming in = ends[end].intake.streams[stream];
        switch (what) {
            case 0: return out.written;
            case 1: return out.sent;
            case 2: return out.countAcked();
            case 3: return out.limit;
            case 4: return out.isDone() ? 1 : 0;
            case 5: return in.taken;
            case 6: return in.isReset ? 0 : in.ready();
            case 7: return in.size;
            case 8: return in.given;
            default: return NONE;
        }
    }

    private void takeOffWay(int k) {
        Row row = way[k];
        for (int i = k; i < wayCount - 1; i++) {
            way[i] = way[i + 1];
        }
        wayCount--;
        way[wayCount] = row;
    }

    private boolean isUnderWay(int k) {
        return k >= 0 && k < wayCount;
    }

    private static boolean isEnd(int end) {
        return end >= 0 && end < ENDS;
    }

    private static boolean isStream(int end, int stream) {
        return isEnd(end) && stream >= 0 && stream < STREAMS;
    }

    private static boolean isCallBytes(int n) {
        return n >= 1 && n <= CALL_BYTES;
    }

    private static int byteOf(long w, int i) {
        return (int) (w >>> (8 * i)) & 255;
    }

    /** How many bytes a number takes that is sent. */
    private static int sizeOf(int number) {
        if (number < 64) {
            return 1;
        }
        return number < 64 * 256 ? 2 : 4;
    }

    /** The bytes of a packet. */
    private static final class Row {
        final int[] bytes = new int[PACKET_BYTES];
        int size;
        int sender;

        void begin(int from, int number) {
            sender = from;
            size = 0;
            put(number % SHORT_NUMBERS);
        }

        void put(int b) {
            if (size < PACKET_BYTES) {
                bytes[size] = b & 255;
                size++;
            }
        }

        void putNumber(int number) {
            int more = sizeOf(number) - 1;
            int mark = more == 0 ? 0 : more == 1 ? 64 : 128;
            put(mark + (number >>> (8 * more)));
            for (int i = more - 1; i >= 0; i--) {
                put(number >>> (8 * i));
            }
        }

        boolean hasRoomFor(int n) {
            return n <= roomLeft();
        }

        int roomLeft() {
            return 1 + FRAME_BYTES - size;
        }

        void seal(int number) {
            int seal = sealFor(size, number);
            put(seal >>> 8);
            put(seal);
        }

        boolean isSealedFor(int number) {
            int count = size - SEAL_BYTES;
            if (count < 0) {
                return false;
            }
            int seal = sealFor(count, number);
            return bytes[count] == seal >>> 8 && bytes[count + 1] == (seal & 255);
        }

        private int sealFor(int count, int number) {
            int c = SEAL_START + sender;
            for (int i = 0; i < count; i++) {
                c = (c ^ bytes[i]) * SEAL_FACTOR;
            }
            return (c >>> 16) ^ (number & 65535);
        }

        /** The number nearest to the one expected that the first byte may stand for; NONE when it is no packet. */
        int fullNumber(int expected) {
            if (size < 1 + SEAL_BYTES || bytes[0] >= SHORT_NUMBERS) {
                return NONE;
            }
            int below = Math.floorMod(expected - bytes[0], SHORT_NUMBERS);
            int number = expected - below;
            boolean isGreaterNearer = below >= SHORT_NUMBERS / 2;
            return isGreaterNearer || number < 0 ? number + SHORT_NUMBERS : number;
        }

        void become(Row other) {
            sender = other.sender;
            size = other.size;
            System.arraycopy(other.bytes, 0, bytes, 0, PACKET_BYTES);
        }
    }

    /** Goes through the frames of a packet, and holds the numbers of the frame that it stands on. */
    private static final class Reader {
        final int[] numbers = new int[ACK_NUMBERS];
        int kind;
        private Row row;
        private int data;
        private int at;
        private int stop;

        void begin(Row of) {
            row = of;
            at = 1;
            stop = of.size - SEAL_BYTES;
        }

        boolean hasMore() {
            return at < stop;
        }

        /** Steps over the next frame; false when what stands there is none. */
        boolean step() {
            kind = nextByte();
            switch (kind) {
                case PING: return true;
                case ACK: return stepAck();
                case STREAM: return stepStream();
                case LIMIT_ALL: return stepNumbers(0, 1);
                case LIMIT: return stepNumbers(0, 2);
                case RESET: return stepNumbers(0, 2);
                case CLOSE: return stepNumbers(0, 1);
                default: return false;
            }
        }

        private boolean stepAck() {
            if (!stepNumbers(0, 3) || numbers[2] > MOST_FURTHER_RANGES) {
                return false;
            }
            return stepNumbers(3, 2 * numbers[2]);
        }

        private boolean stepStream() {
            if (!stepNumbers(0, 3)) {
                return false;
            }
            data = at;
            int count = numbers[2] / 2;
            if (count > stop - at) {
                return false;
            }
            at += count;
            return true;
        }

        private boolean stepNumbers(int from, int count) {
            for (int i = from; i < from + count && i < ACK_NUMBERS; i++) {
                numbers[i] = nextNumber();
                if (numbers[i] == NONE) {
                    return false;
                }
            }
            return true;
        }

        private int nextNumber() {
            int first = nextByte();
            if (first < 64) {
                return first;
            }
            if (first >= 192) {
                return NONE;
            }
            int more = first < 128 ? 1 : 3;
            if (more > stop - at) {
                return NONE;
            }
            int number = first & 63;
            for (int i = 0; i < more; i++) {
                number = number * 256 + nextByte();
            }
            return number;
        }

        private int nextByte() {
            if (row == null || at >= stop || at >= PACKET_BYTES) {
                return NONE;
            }
            at++;
            return row.bytes[at - 1];
        }

        /** Byte i of those that a STREAM frame bears. */
        int dataAt(int i) {
            int place = data + i;
            return row != null && place >= 0 && place < PACKET_BYTES ? row.bytes[place] : NONE;
        }
    }

    /** The numbers of the packets processed at an end. */
    private static final class Numbers {
        private final int[] bits = new int[MOST_NUMBERS / 32];
        int greatest = NONE;

        boolean has(int number) {
            return number >= 0 && number < MOST_NUMBERS && (bits[number / 32] >>> (number % 32) & 1) == 1;
        }

        boolean canHold(int number) {
            return number >= 0 && number < MOST_NUMBERS;
        }

        void add(int number) {
            if (canHold(number)) {
                bits[number / 32] |= 1 << (number % 32);
                greatest = Math.max(greatest, number);
            }
        }

        /** The least number of the range that this one is in. */
        int leastOfRange(int number) {
            int least = number;
            for (int n = number - 1; n >= 0 && has(n); n--) {
                least = n;
            }
            return least;
        }

        int greatestBelow(int number) {
            for (int n = number - 1; n >= 0; n--) {
                if (has(n)) {
                    return n;
                }
            }
            return NONE;
        }

        int countRangesBelow(int number, int most) {
            int count = 0;
            int top = greatestBelow(number);
            while (count < most && top != NONE) {
                count++;
                top = greatestBelow(leastOfRange(top));
            }
            return count;
        }
    }

    /** What a packet that was sent bore, and what became of it. */
    private static final class Sent {
        int fate = ON_WAY;
        boolean hasMoreThanAck;
        int limitAll = NONE;
        final int[] limit = new int[STREAMS];
        final int[] from = new int[STREAMS];
        final int[] count = new int[STREAMS];
        final boolean[] end = new boolean[STREAMS];
        final boolean[] reset = new boolean[STREAMS];

        Sent() {
            Arrays.fill(limit, NONE);
        }
    }

    /** A stream at the end that writes it. */
    private static final class Outgoing {
        final int[] bytes = new int[STREAM_BYTES];
        final int[] fates = new int[STREAM_BYTES];
        int written;
        int sent;
        int limit;
        boolean finished;
        boolean isReset;
        int endFate = FRESH;
        int resetFate = FRESH;

        Outgoing(int firstLimit) {
            limit = firstLimit;
        }

        boolean isGrowing() {
            return !finished && !isReset;
        }

        void append(int n, long w) {
            for (int i = 0; i < n && written < STREAM_BYTES; i++) {
                bytes[written] = byteOf(w, i);
                written++;
            }
        }

        int countAcked() {
            int count = 0;
            for (int i = 0; i < written; i++) {
                if (fates[i] == ACKED) {
                    count++;
                }
            }
            return count;
        }

        boolean isDone() {
            return resetFate == ACKED || (endFate == ACKED && countAcked() == written);
        }

        int firstLost() {
            for (int i = 0; i < sent; i++) {
                if (fates[i] == LOST) {
                    return i;
                }
            }
            return NONE;
        }

        int countLostFrom(int place) {
            int count = 0;
            for (int i = place; i < sent && fates[i] == LOST; i++) {
                count++;
            }
            return count;
        }

        boolean owesReset() {
            return isReset && isOwed(resetFate);
        }

        boolean owesEndAlone() {
            return finished && isOwed(endFate) && sent == written && firstLost() == NONE;
        }

        private static boolean isOwed(int fate) {
            return fate == FRESH || fate == LOST;
        }

        /** What a packet bore of this stream gets a fate, but for what is acked: that stays so for ever. */
        void mark(Sent packet, int s, int fate) {
            int stop = packet.from[s] + packet.count[s];
            for (int i = packet.from[s]; i < stop && i < STREAM_BYTES; i++) {
                if (fates[i] != ACKED) {
                    fates[i] = fate;
                }
            }
            if (packet.end[s] && endFate != ACKED) {
                endFate = fate;
            }
            if (packet.reset[s] && resetFate != ACKED) {
                resetFate = fate;
            }
        }
    }

    /** The streams that an end writes, and the limits that it has for them. */
    private static final class Outflow {
        final Outgoing[] streams = new Outgoing[STREAMS];
        int limitAll;

        Outflow(int streamWindow, int window) {
            limitAll = window;
            for (int s = 0; s < STREAMS; s++) {
                streams[s] = new Outgoing(streamWindow);
            }
        }

        void raiseAll(int limit) {
            limitAll = Math.max(limitAll, limit);
        }

        int raiseOne(int s, int limit) {
            if (s < 0 || s >= STREAMS) {
                return NO_STREAM;
            }
            streams[s].limit = Math.max(streams[s].limit, limit);
            return RIGHT;
        }

        void mark(Sent packet, int fate) {
            for (int s = 0; s < STREAMS; s++) {
                streams[s].mark(packet, s, fate);
            }
        }

        void putResets(Row row, Sent packet) {
            for (int s = 0; s < STREAMS; s++) {
                Outgoing of = streams[s];
                if (of.owesReset() && row.hasRoomFor(2 + sizeOf(of.sent))) {
                    row.put(RESET);
                    row.putNumber(s);
                    row.putNumber(of.sent);
                    packet.reset[s] = true;
                }
            }
        }

        void putStreams(Row row, Sent packet) {
            for (int s = 0; s < STREAMS; s++) {
                if (!streams[s].isReset && choosePart(row.roomLeft(), packet, s)) {
                    putPart(row, packet, s);
                }
            }
        }

        /** Chooses what of a stream the packet is to bear; false when there is nothing, or no room for it. */
        private boolean choosePart(int roomLeft, Sent packet, int s) {
            Outgoing of = streams[s];
            int lost = of.firstLost();
            int from = lost == NONE ? of.sent : lost;
            int left = lost == NONE ? countAllowed(of) : of.countLostFrom(lost);
            // A frame's third number is below 64, as its bytes are so few: one byte.
            int room = roomLeft - (2 + sizeOf(from) + 1);
            int count = Math.min(Math.min(left, MOST_FRAME_DATA), room);
            boolean isEndAlone = left == 0 && room >= 0 && of.owesEndAlone();
            if (count < 1 && !isEndAlone) {
                return false;
            }
            packet.from[s] = from;
            packet.count[s] = count;
            packet.end[s] = of.finished && from + count == of.written;
            of.sent = Math.max(of.sent, from + count);
            return true;
        }

        private void putPart(Row row, Sent packet, int s) {
            int from = packet.from[s];
            int count = packet.count[s];
            row.put(STREAM);
            row.putNumber(s);
            row.putNumber(from);
            row.putNumber(2 * count + (packet.end[s] ? 1 : 0));
            for (int i = from; i < from + count && i < STREAM_BYTES; i++) {
                row.put(streams[s].bytes[i]);
            }
        }

        /** How many bytes that were not sent yet the limits allow. */
        private int countAllowed(Outgoing of) {
            int here = Math.min(of.written, of.limit) - of.sent;
            int allSent = 0;
            for (int s = 0; s < STREAMS; s++) {
                allSent += streams[s].sent;
            }
            return Math.max(0, Math.min(here, limitAll - allSent));
        }
    }

    /** A stream at the end that reads it. */
    private static final class Incoming {
        final int[] bytes = new int[STREAM_BYTES];
        int taken;
        int reach;
        int size = NONE;
        int given;
        boolean isReset;
        boolean isLimitDue;

        Incoming(int firstLimit) {
            given = firstLimit;
            Arrays.fill(bytes, NONE);
        }

        /** How many bytes stand in a row from the next one to be read on. */
        int ready() {
            int count = 0;
            for (int i = taken; i < STREAM_BYTES && bytes[i] != NONE; i++) {
                count++;
            }
            return count;
        }

        /** What it counts among the bytes read of all streams. */
        int spent() {
            return isReset ? size : taken;
        }

        boolean isWrongSize(int to, boolean saysSize) {
            if (saysSize && to < reach) {
                return true;
            }
            return size != NONE && (saysSize ? to != size : to > size);
        }

        void reachTo(int to, boolean saysSize) {
            reach = Math.max(reach, to);
            if (saysSize) {
                size = to;
            }
        }

        void keep(int place, int b) {
            boolean isInside = place >= 0 && place < STREAM_BYTES;
            if (!isReset && isInside && bytes[place] == NONE) {
                bytes[place] = b;
            }
        }
    }

    /** The streams that an end reads, and the limits that it gives for them. */
    private static final class Intake {
        final Incoming[] streams = new Incoming[STREAMS];
        final int streamWindow;
        final int window;
        int givenAll;
        boolean isAllDue;

        Intake(int streamWindow, int window) {
            this.streamWindow = streamWindow;
            this.window = window;
            givenAll = window;
            for (int s = 0; s < STREAMS; s++) {
                streams[s] = new Incoming(streamWindow);
            }
        }

        int takeByte(Incoming from) {
            if (from.taken >= STREAM_BYTES) {
                return NONE;
            }
            int b = from.bytes[from.taken];
            from.taken++;
            lookAtLimit(from);
            lookAtLimitAll();
            return b;
        }

        int takeData(Reader frame) {
            int s = frame.numbers[0];
            int count = frame.numbers[2] / 2;
            boolean saysSize = frame.numbers[2] % 2 == 1;
            int from = frame.numbers[1];
            int fault = findFault(s, from + count, saysSize);
            if (fault != RIGHT) {
                return fault;
            }
            for (int i = 0; i < count; i++) {
                streams[s].keep(from + i, frame.dataAt(i));
            }
            streams[s].reachTo(from + count, saysSize);
            return RIGHT;
        }

        int takeReset(int s, int size) {
            int fault = findFault(s, size, true);
            if (fault != RIGHT) {
                return fault;
            }
            streams[s].reachTo(size, true);
            streams[s].isReset = true;
            lookAtLimitAll();
            return RIGHT;
        }

        private int findFault(int s, int to, boolean saysSize) {
            if (s < 0 || s >= STREAMS) {
                return NO_STREAM;
            }
            if (to > streams[s].given || reachOfAll(s, to) > givenAll) {
                return BEYOND_LIMIT;
            }
            return streams[s].isWrongSize(to, saysSize) ? WRONG_SIZE : RIGHT;
        }

        private int reachOfAll(int reached, int to) {
            int sum = 0;
            for (int s = 0; s < STREAMS; s++) {
                sum += s == reached ? Math.max(streams[s].reach, to) : streams[s].reach;
            }
            return sum;
        }

        private int limitFor(Incoming of) {
            return Math.min(of.taken + streamWindow, STREAM_BYTES);
        }

        private int limitForAll() {
            int sum = 0;
            for (int s = 0; s < STREAMS; s++) {
                sum += streams[s].spent();
            }
            return Math.min(sum + window, ALL_BYTES);
        }

        private void lookAtLimit(Incoming of) {
            if (isWorthGiving(limitFor(of), of.given, streamWindow / 2, STREAM_BYTES)) {
                of.isLimitDue = true;
            }
        }

        private void lookAtLimitAll() {
            if (isWorthGiving(limitForAll(), givenAll, window / 2, ALL_BYTES)) {
                isAllDue = true;
            }
        }

        private static boolean isWorthGiving(int limit, int given, int step, int most) {
            return limit > given && (limit - given >= step || limit == most);
        }

        /** A limit that a lost packet bore is due again, but not when a later one was given since. */
        void loseLimits(Sent packet) {
            if (packet.limitAll == givenAll) {
                isAllDue = true;
            }
            for (int s = 0; s < STREAMS; s++) {
                if (packet.limit[s] == streams[s].given) {
                    streams[s].isLimitDue = true;
                }
            }
        }

        void putLimits(Row row, Sent packet) {
            putLimitAll(row, packet);
            for (int s = 0; s < STREAMS; s++) {
                putLimit(row, packet, s);
            }
        }

        private void putLimitAll(Row row, Sent packet) {
            int limit = limitForAll();
            if (!isAllDue || !row.hasRoomFor(1 + sizeOf(limit))) {
                return;
            }
            row.put(LIMIT_ALL);
            row.putNumber(limit);
            packet.limitAll = limit;
            givenAll = limit;
            isAllDue = false;
        }

        private void putLimit(Row row, Sent packet, int s) {
            int limit = limitFor(streams[s]);
            if (!streams[s].isLimitDue || !row.hasRoomFor(2 + sizeOf(limit))) {
                return;
            }
            row.put(LIMIT);
            row.putNumber(s);
            row.putNumber(limit);
            packet.limit[s] = limit;
            streams[s].given = limit;
            streams[s].isLimitDue = false;
        }
    }

    /** One of the two ends. */
    private static final class End {
        final int side;
        final Intake intake;
        final Outflow outflow;
        final Numbers processed = new Numbers();
        private final Reader reader = new Reader();
        private final Sent[] sent = new Sent[MOST_SENT];
        int next;
        int code = NONE;
        int backoff;
        private int greatestAcked = NONE;
        private int timerStart;
        private boolean isAckDue;
        private boolean isProbeDue;
        private boolean isCloseDue;

        End(int side, int streamWindow, int window) {
            this.side = side;
            intake = new Intake(streamWindow, window);
            outflow = new Outflow(streamWindow, window);
        }

        boolean isOpen() {
            return code == NONE;
        }

        void shut(int withCode, boolean tellsOther) {
            code = withCode;
            isCloseDue = tellsOther;
        }

        int receive(Row row) {
            if (!isOpen()) {
                return WAS_CLOSED;
            }
            int number = row.fullNumber(processed.greatest + 1);
            if (!processed.canHold(number) || processed.has(number) || !row.isSealedFor(number)) {
                return DROPPED;
            }
            processed.add(number);
            reader.begin(row);
            for (int i = 0; i < PACKET_BYTES && isOpen() && reader.hasMore(); i++) {
                int fault = reader.step() ? takeFrame() : NO_FRAME;
                if (fault != RIGHT) {
                    shut(fault, true);
                }
            }
            return PROCESSED;
        }

        private int takeFrame() {
            int[] numbers = reader.numbers;
            if (reader.kind == ACK) {
                return takeAck(numbers);
            }
            if (reader.kind == CLOSE) {
                shut(numbers[0], false);
                return RIGHT;
            }
            isAckDue = true;
            switch (reader.kind) {
                case STREAM: return intake.takeData(reader);
                case RESET: return intake.takeReset(numbers[0], numbers[1]);
                case LIMIT: return outflow.raiseOne(numbers[0], numbers[1]);
                case LIMIT_ALL: outflow.raiseAll(numbers[0]); return RIGHT;
                default: return RIGHT;
            }
        }

        private int takeAck(int[] numbers) {
            // Nothing of a wrong frame counts, so all its ranges are looked at before any is taken.
            if (!isAckRight(numbers)) {
                return WRONG_ACK;
            }
            int least = numbers[0] - numbers[1];
            ackRange(least, numbers[0]);
            for (int r = 0; r < numbers[2] && r < MOST_FURTHER_RANGES; r++) {
                int top = least - numbers[3 + 2 * r] - 2;
                least = top - numbers[4 + 2 * r];
                ackRange(least, top);
            }
            loseOvertaken();
            return RIGHT;
        }

        private boolean isAckRight(int[] numbers) {
            int least = numbers[0] - numbers[1];
            for (int r = 0; r < numbers[2] && r < MOST_FURTHER_RANGES && least >= 0; r++) {
                least = least - numbers[3 + 2 * r] - 2 - numbers[4 + 2 * r];
            }
            return numbers[0] < next && least >= 0;
        }

        private void ackRange(int least, int greatest) {
            for (int n = Math.max(least, 0); n <= greatest && n < next; n++) {
                if (isOnWay(n)) {
                    sent[n].fate = ACKED;
                    outflow.mark(sent[n], ACKED);
                    greatestAcked = Math.max(greatestAcked, n);
                    backoff = 0;
                }
            }
        }

        private void loseOvertaken() {
            for (int n = 0; n <= greatestAcked - OVERTAKEN_BY; n++) {
                if (isOnWay(n)) {
                    losePacket(sent[n]);
                }
            }
        }

        private void losePacket(Sent packet) {
            packet.fate = LOST;
            outflow.mark(packet, LOST);
            intake.loseLimits(packet);
        }

        private boolean isOnWay(int n) {
            return n >= 0 && n < next && n < MOST_SENT && sent[n] != null && sent[n].fate == ON_WAY;
        }

        private boolean isTimed(int n) {
            return isOnWay(n) && sent[n].hasMoreThanAck;
        }

        int countOnWay() {
            int count = 0;
            for (int n = 0; n < next; n++) {
                if (isTimed(n)) {
                    count++;
                }
            }
            return count;
        }

        void passTick(int time) {
            if (!isOpen() || time - timerStart < TIMER_TICKS << backoff) {
                return;
            }
            for (int n = 0; n < next; n++) {
                if (isTimed(n)) {
                    losePacket(sent[n]);
                    isProbeDue = true;
                    backoff = Math.min(backoff + 1, MOST_BACKOFF);
                    timerStart = time;
                    return;
                }
            }
        }

        /** Makes the next packet in a row: how many bytes it has, or NONE when there is nothing to be sent. */
        int makePacket(Row row, int time) {
            if (next >= MOST_SENT || (!isOpen() && !isCloseDue)) {
                return NONE;
            }
            Sent packet = new Sent();
            row.begin(side, next);
            if (isOpen()) {
                putFrames(row, packet);
            } else {
                putClose(row);
            }
            if (row.roomLeft() == FRAME_BYTES) {
                return NONE;
            }
            row.seal(next);
            outflow.mark(packet, ON_WAY);
            sent[next] = packet;
            next++;
            if (packet.hasMoreThanAck) {
                timerStart = time;
                isProbeDue = false;
            }
            return row.size;
        }

        private void putClose(Row row) {
            row.put(CLOSE);
            row.putNumber(code);
            isCloseDue = false;
        }

        private void putFrames(Row row, Sent packet) {
            if (isAckDue) {
                putAck(row);
                isAckDue = false;
            }
            int sizeWithAck = row.size;
            intake.putLimits(row, packet);
            outflow.putResets(row, packet);
            outflow.putStreams(row, packet);
            // PING stands only where no STREAM follows it, so it may as well be looked at last.
            if (isProbeDue && row.size == sizeWithAck) {
                row.put(PING);
            }
            packet.hasMoreThanAck = row.size > sizeWithAck;
        }

        private void putAck(Row row) {
            int top = processed.greatest;
            int least = processed.leastOfRange(top);
            int further = processed.countRangesBelow(least, MOST_FURTHER_RANGES);
            row.put(ACK);
            row.putNumber(top);
            row.putNumber(top - least);
            row.putNumber(further);
            for (int r = 0; r < further; r++) {
                top = processed.greatestBelow(least);
                row.putNumber(least - top - 2);
                least = processed.leastOfRange(top);
                row.putNumber(top - least);
            }
        }
    }
}
