import java.util.Arrays;

/** The edges that the paragraph on FRAMES names, and those of taking frames that are not wrong. */
final class EdgesOfFramesTest {
    public static void main(String[] args) {
        kindsUpTo6();
        ackOfOnePacketAndOfAll();
        ackWithoutFurtherRanges();
        ackOfAPacketBeyondASmallestGap();
        ackWithTwoFurtherRanges();
        ackWithThreeFurtherRanges();
        streamWithoutBytesAndEnd();
        streamWithAnEndAlone();
        streamWithBytesAndEnd();
        streamUpToTheLastByteOfAPacket();
        farthestReachCounts();
        resetReachesToItsSize();
        closeStopsThePacket();
        ackIsDue();
        ackIsNotDue();
        nothingNewIsTaken();
        placeHasTheFirstByte();
        bytesOfAResetStream();
        limitsThatAreNotGreater();
        Check.done();
    }

    /** "FRAMES (the first byte tells which): 0 .. 6": what begins with another byte is none. */
    private static void kindsUpTo6() {
        for (int kind = 0; kind < 256; kind++) {
            int want = kind == 1 ? 5 : kind == 6 ? 0 : kind < 6 ? -1 : 1;
            Check.due("first byte " + kind, Check.codeOf(kind, 0, 0, 0, 0, 0), want);
        }
        Check.due("6 is CLOSE", Check.codeOf(6, 9), 9);
        Check.due("7 is none", Check.codeOf(7, 9), 1);
    }

    /** Thirteen packets of end 0, numbers 0 .. 12, each with the byte of stream 0 that has its place. */
    private static StreamTransport thirteenSent() {
        StreamTransport x = new StreamTransport(15, 31);
        for (int i = 0; i < 13; i++) {
            Check.fill(x, 0, 0, 1);
            x.send(0);
            x.lose(0);
        }
        return x;
    }

    /** An ACK comes: which packets are acked, as a bit for each, is told by those that are lost by it. */
    private static void acks(String what, int acked, int... frame) {
        StreamTransport x = thirteenSent();
        Check.due(what, Check.craft(x, 0, 0, frame), 0);
        Check.due(what + ", closed", x.closed(0), -1);
        Check.due(what + ", how many are acked", x.stream(0, 0, 2), Integer.bitCount(acked));
        int overtaken = Integer.highestOneBit(acked) / 8 * 2 - 1;
        int lost = overtaken > 0 ? overtaken & ~acked : 0;
        Check.due(what + ", waiting", x.about(0, 1), 13 - Integer.bitCount(acked) - Integer.bitCount(lost));
        int again = 0;
        for (int i = 0; i < 13 && x.send(0) != -1; i++) {
            int k = x.packets() - 1;
            if (x.packet(k, 1) == 2) {
                again |= (1 << x.packet(k, 4) / 2) - 1 << x.packet(k, 3);
            }
        }
        Check.due(what + ", which are lost", again, lost);
    }

    private static int bits(int... numbers) {
        int bits = 0;
        for (int n : numbers) {
            bits |= 1 << n;
        }
        return bits;
    }

    /** "acknowledged are the packets l - f .. l" */
    private static void ackOfOnePacketAndOfAll() {
        acks("the first", bits(0), 1, 0, 0, 0);
        acks("the last", bits(12), 1, 12, 0, 0);
        acks("the last two", bits(12, 11), 1, 12, 1, 0);
        acks("all", 8191, 1, 12, 12, 0);
        acks("all but the first", 8190, 1, 12, 11, 0);
        acks("some", bits(7, 6, 5), 1, 7, 2, 0);
    }

    /** "r (0 .. 2)": with 0 the frame ends there. */
    private static void ackWithoutFurtherRanges() {
        acks("a PING behind it", bits(0), 1, 0, 0, 0, 0);
        acks("two frames", bits(0, 1), 1, 0, 0, 0, 1, 1, 0, 0);
    }

    /** "the n + 1 packets from s - g - 2 downwards": g 0 leaves out one packet, n 0 is one packet. */
    private static void ackOfAPacketBeyondASmallestGap() {
        acks("12 and 10", bits(12, 10), 1, 12, 0, 1, 0, 0);
        acks("12 and 9", bits(12, 9), 1, 12, 0, 1, 1, 0);
        acks("12, 10 and 9", bits(12, 10, 9), 1, 12, 0, 1, 0, 1);
        acks("12, 8 to 6", bits(12, 8, 7, 6), 1, 12, 0, 1, 2, 2);
        acks("12 to 2, and 0", 8191 - 2, 1, 12, 10, 1, 0, 0);
        acks("12 and 0", bits(12, 0), 1, 12, 0, 1, 10, 0);
        acks("2 and 0", bits(2, 0), 1, 2, 0, 1, 0, 0);
    }

    /** "each time, s being the least so far" */
    private static void ackWithTwoFurtherRanges() {
        acks("12, 10 and 8", bits(12, 10, 8), 1, 12, 0, 2, 0, 0, 0, 0);
        acks("12, 10 to 8, 6 to 0", bits(12, 10, 9, 8, 6, 5, 4, 3, 2, 1, 0), 1, 12, 0, 2, 0, 2, 0, 6);
        acks("12, 10 and 6", bits(12, 10, 6), 1, 12, 0, 2, 0, 0, 2, 0);
        acks("12 and 11, 8, 6 and 5", bits(12, 11, 8, 6, 5), 1, 12, 1, 2, 1, 0, 0, 1);
        acks("12, 9, 5 and 4", bits(12, 9, 5, 4), 1, 12, 0, 2, 1, 0, 2, 1);
        acks("4, 2 and 0", bits(4, 2, 0), 1, 4, 0, 2, 0, 0, 0, 0);
    }

    /** "r (0 .. 2)", "r above 2": 3 is too many, whether its numbers are there or not. */
    private static void ackWithThreeFurtherRanges() {
        int[] frame = {1, 12, 0, 3, 0, 0, 0, 0, 0, 0};
        for (int n = 4; n <= frame.length; n++) {
            StreamTransport x = thirteenSent();
            Check.craft(x, 0, 0, Arrays.copyOf(frame, n));
            Check.due("r 3 with " + (n - 4) + " numbers", x.closed(0), 1);
            Check.due("acks nothing", x.stream(0, 0, 2), 0);
        }
    }

    /** "k 0: no bytes and no end; that is right, too" */
    private static void streamWithoutBytesAndEnd() {
        StreamTransport x = new StreamTransport(0, 0);
        Check.craft(x, 1, 0, 2, 0, 0, 0);
        Check.due("not closed", x.closed(1), -1);
        Check.due("no bytes", x.stream(1, 0, 6), 0);
        Check.due("no end", x.stream(1, 0, 7), -1);
        Check.due("read", Check.read(x, 1, 0), Check.NO_ELEMENT);
        Check.due("an ACK is due", x.send(1), 7);
    }

    /** "k odd: it is finished behind them": k 1 is an end alone. */
    private static void streamWithAnEndAlone() {
        StreamTransport x = new StreamTransport(0, 0);
        Check.craft(x, 1, 0, 2, 0, 0, 1, 2, 1, 2, 1);
        Check.due("size 0", x.stream(1, 0, 7), 0);
        Check.due("read", Check.read(x, 1, 0), Check.UNSUPPORTED);
        Check.due("size 2", x.stream(1, 1, 7), 2);
        Check.due("its bytes have not come", Check.read(x, 1, 1), Check.NO_ELEMENT);
    }

    /** "k / 2 bytes: these stand in stream s from place o on; k odd: it is finished behind them" */
    private static void streamWithBytesAndEnd() {
        StreamTransport x = new StreamTransport(0, 0);
        Check.craft(x, 1, 0, 2, 3, 1, 5, 20, 30);
        Check.craft(x, 1, 1, 2, 3, 0, 2, 10);
        Check.due("size", x.stream(1, 3, 7), 3);
        for (int b = 10; b <= 30; b += 10) {
            Check.due("byte", Check.read(x, 1, 3), b);
        }
        Check.due("the end", Check.read(x, 1, 3), Check.UNSUPPORTED);
    }

    /** "bytes .. missing": the bytes of a STREAM frame may end with the packet, but not behind it. */
    private static void streamUpToTheLastByteOfAPacket() {
        int[] frames = new int[37];
        frames[17] = 2;
        frames[18] = 1;
        frames[20] = 32;
        StreamTransport x = new StreamTransport(15, 31);
        Check.due("37 bytes of frames", Check.craft(x, 1, 0, frames), 0);
        Check.due("not closed", x.closed(1), -1);
        Check.due("16 bytes came", x.stream(1, 1, 6), 16);
        frames[20] = 34;
        StreamTransport y = new StreamTransport(15, 31);
        Check.due("37 bytes of frames", Check.craft(y, 1, 0, frames), 0);
        Check.due("the seal is no byte of a frame", y.closed(1), 1);
        Check.due("nothing of it is taken", y.stream(1, 1, 6), 0);
    }

    /** "how far a stream is reached is the greatest of these so far": later and lower ones change nothing. */
    private static void farthestReachCounts() {
        StreamTransport x = new StreamTransport(15, 0);
        Check.craft(x, 1, 0, 2, 0, 5, 2, 9);
        Check.craft(x, 1, 1, 2, 0, 0, 2, 9);
        Check.craft(x, 1, 2, 2, 0, 0, 0);
        Check.craft(x, 1, 3, 2, 1, 2, 0);
        Check.due("6 + 2 are all", x.closed(1), -1);
        Check.craft(x, 1, 4, 2, 2, 1, 0);
        Check.due("6 + 2 + 1 are too many", x.closed(1), 3);
        StreamTransport y = new StreamTransport(15, 0);
        Check.craft(y, 1, 0, 2, 0, 5, 2, 9);
        Check.craft(y, 1, 1, 2, 0, 0, 2, 9);
        Check.craft(y, 1, 2, 2, 0, 5, 1);
        Check.due("a size of 5 is below 6", y.closed(1), 4);
    }

    /** "It REACHES to o + k / 2, a RESET to its size" */
    private static void resetReachesToItsSize() {
        StreamTransport x = new StreamTransport(15, 0);
        Check.craft(x, 1, 0, 5, 0, 8);
        Check.due("all of 8", x.closed(1), -1);
        Check.craft(x, 1, 1, 2, 1, 0, 1);
        Check.due("0 more", x.closed(1), -1);
        Check.craft(x, 1, 2, 2, 2, 1, 0);
        Check.due("1 more; the reset made 12 due, but did not give it", x.closed(1), 3);
    }

    /** "CLOSE closes the connection at this end with that code (any number); what stands behind it .. is not looked at." */
    private static void closeStopsThePacket() {
        Check.due("a wrong frame behind it", Check.codeOf(6, 40, 7), 40);
        Check.due("a second CLOSE behind it", Check.codeOf(6, 40, 6, 41), 40);
        StreamTransport x = new StreamTransport(0, 0);
        Check.craft(x, 1, 0, 4, 0, 30, 6, 0, 4, 0, 40, 3, 50, 2, 0, 0, 3, 9, 5, 1, 1);
        Check.due("code 0", x.closed(1), 0);
        Check.due("before it", x.stream(1, 0, 3), 30);
        Check.due("limit for all behind it", x.about(1, 2), 8);
        Check.due("bytes behind it", x.stream(1, 0, 6), 0);
        Check.due("an end behind it", x.stream(1, 0, 7), -1);
        Check.due("a reset behind it", x.stream(1, 1, 7), -1);
        Check.due("greatest code", Check.codeOf(6, 191, 255, 255, 255), (1 << 30) - 1);
        Check.due("a code that wrong frames have, too", Check.codeOf(6, 5), 5);
    }

    /** "A packet with a frame other than ACK and CLOSE makes an ACK DUE." */
    private static void ackIsDue() {
        int[][] frames = {{0}, {2, 0, 0, 0}, {2, 0, 0, 1}, {3, 0}, {4, 0, 0}, {5, 0, 0}, {1, 0, 0, 0, 0}, {0, 1, 0, 0, 0}};
        for (int[] frame : frames) {
            StreamTransport x = new StreamTransport(0, 0);
            Check.fill(x, 0, 0, 1);
            x.send(0);
            Check.craft(x, 0, 0, frame);
            Check.sends("an ACK for " + Arrays.toString(frame), x, 0, 1, 1, 0, 0, 0);
            Check.due("once", x.send(0), -1);
        }
    }

    /** The same: a packet with ACK alone, or without frames, makes none due, nor does one that is dropped. */
    private static void ackIsNotDue() {
        StreamTransport x = new StreamTransport(0, 0);
        Check.fill(x, 0, 0, 1);
        x.send(0);
        Check.craft(x, 0, 0, 1, 0, 0, 0);
        Check.due("ACK", x.send(0), -1);
        Check.craft(x, 0, 1, 1, 0, 0, 0, 1, 0, 0, 0);
        Check.due("two ACKs", x.send(0), -1);
        Check.craft(x, 0, 2);
        Check.due("no frame", x.send(0), -1);
        Check.due("dropped", Check.craft(x, 0, 2, 0), 1);
        Check.due("a packet that is dropped", x.send(0), -1);
        Check.craft(x, 0, 3, 0);
        Check.craft(x, 0, 4, 1, 0, 0, 0);
        Check.sends("an ACK leaves what is due", x, 0, 1, 1, 4, 4, 0);
    }

    /** "A frame STREAM or RESET that is not wrong is taken, though nothing may be new" */
    private static void nothingNewIsTaken() {
        StreamTransport x = new StreamTransport(0, 0);
        Check.craft(x, 1, 0, 2, 0, 0, 5, 1, 2);
        x.send(1);
        Check.craft(x, 1, 1, 2, 0, 0, 5, 1, 2);
        Check.due("not closed", x.closed(1), -1);
        Check.due("an ACK is due", x.send(1), 7);
        Check.drain(x, 1, 0, 2);
        Check.craft(x, 1, 2, 2, 0, 0, 5, 8, 8);
        Check.due("what was read does not come again", Check.read(x, 1, 0), Check.UNSUPPORTED);
        Check.craft(x, 1, 3, 5, 0, 2);
        x.send(1);
        Check.craft(x, 1, 4, 5, 0, 2);
        Check.due("not closed", x.closed(1), -1);
        Check.sends("an ACK is due", x, 1, x.about(1, 0), 1, 4, 4, 0);
    }

    /** "a place has the byte that came first" */
    private static void placeHasTheFirstByte() {
        StreamTransport x = new StreamTransport(0, 0);
        Check.craft(x, 1, 0, 2, 0, 1, 4, 0, 22);
        Check.craft(x, 1, 1, 2, 0, 0, 8, 50, 51, 52, 53);
        for (int b : new int[] {50, 0, 22, 53}) {
            Check.due("byte", Check.read(x, 1, 0), b);
        }
        StreamTransport y = new StreamTransport(0, 0);
        Check.craft(y, 1, 0, 2, 0, 0, 2, 1, 2, 0, 0, 2, 2);
        Check.due("in one packet", Check.read(y, 1, 0), 1);
    }

    /** "bytes for a stream that is reset are passed over" */
    private static void bytesOfAResetStream() {
        StreamTransport x = new StreamTransport(0, 0);
        Check.craft(x, 1, 0, 5, 0, 4);
        x.send(1);
        Check.craft(x, 1, 1, 2, 0, 0, 8, 1, 2, 3, 4);
        Check.due("not closed", x.closed(1), -1);
        Check.due("an ACK is due", x.send(1), 7);
        Check.due("nothing can be read", x.stream(1, 0, 6), 0);
        Check.due("read", Check.read(x, 1, 0), Check.STATE);
        Check.craft(x, 1, 2, 2, 0, 4, 1);
        Check.due("its end, too", x.closed(1), -1);
        Check.due("it stays reset", Check.read(x, 1, 0), Check.STATE);
    }

    /** "LIMIT and LIMIT-ALL count when they are greater than what was there." */
    private static void limitsThatAreNotGreater() {
        StreamTransport x = new StreamTransport(6, 12);
        int[][] limits = {{0, 10, 20}, {9, 10, 20}, {10, 10, 20}, {11, 11, 20}, {10, 11, 20}, {19, 19, 20},
            {20, 20, 20}, {21, 21, 21}, {20, 21, 21}, {0, 21, 21}};
        for (int i = 0; i < limits.length; i++) {
            Check.craft(x, 0, i, 4, 3, limits[i][0], 3, limits[i][0]);
            Check.due("LIMIT " + limits[i][0], x.stream(0, 3, 3), limits[i][1]);
            Check.due("LIMIT-ALL " + limits[i][0], x.about(0, 2), limits[i][2]);
        }
        Check.due("another stream", x.stream(0, 2, 3), 10);
        Check.craft(x, 0, 10, 4, 3, 191, 255, 255, 255, 3, 191, 255, 255, 255);
        Check.fill(x, 0, 3, 64);
        for (int i = 0; i < 6; i++) {
            x.send(0);
        }
        Check.due("all bytes are below the greatest limit", x.stream(0, 3, 1), 64);
    }
}
