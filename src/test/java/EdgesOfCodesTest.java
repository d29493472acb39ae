import java.util.Arrays;

/** The edges of the codes with which a wrong frame closes the connection. */
final class EdgesOfCodesTest {
    public static void main(String[] args) {
        code1NoFrame();
        code1BytesMissing();
        code2StreamAbove3();
        code3BeyondTheLimitOfAStream();
        code3BeyondALimitThatWasGivenLater();
        code3BeyondTheLimitForAll();
        code3ThisFrameCounts();
        code3HugePlaces();
        code4SizeBelowTheReach();
        code4AnotherSize();
        code4BeyondTheSize();
        sameSizeIsRight();
        resetWithTheSameSizeResets();
        code5NeverSent();
        code5Below0();
        code5CountsForNothing();
        leastCodeThatFits();
        firstWrongFrameCounts();
        whatCameBeforeHolds();
        wrongFrameIsNotTaken();
        Check.done();
    }

    /** "1 what stands there is no frame" */
    private static void code1NoFrame() {
        Check.due("6 is a frame", Check.codeOf(6, 0), 0);
        for (int b = 7; b < 256; b++) {
            Check.due("byte " + b, Check.codeOf(b), 1);
            Check.due("byte " + b + " behind a PING", Check.codeOf(0, b), 1);
        }
    }

    /** "bytes or numbers missing, too" */
    private static void code1BytesMissing() {
        for (int k = 0; k < 10; k++) {
            for (int n = 0; n <= 4; n++) {
                int[] frame = Arrays.copyOf(new int[] {2, 0, 0, k}, 4 + n);
                int left = n - k / 2;
                Check.due("k " + k + " with " + n + " bytes", Check.codeOf(frame), left < 0 ? 1 : -1);
            }
        }
        Check.due("the greatest k", Check.codeOf(2, 0, 0, 191, 255, 255, 255, 0, 0), 1);
    }

    /** "2 a stream above 3": of STREAM, LIMIT and RESET. */
    private static void code2StreamAbove3() {
        for (int s = 0; s < 64; s++) {
            int want = s < 4 ? -1 : 2;
            Check.due("STREAM of " + s, Check.codeOf(2, s, 0, 0), want);
            Check.due("LIMIT of " + s, Check.codeOf(4, s, 0), want);
            Check.due("RESET of " + s, Check.codeOf(5, s, 0), want);
        }
        for (int kind : new int[] {2, 4, 5}) {
            Check.due("stream 3 in four bytes", Check.codeOf(kind, 128, 0, 0, 3, 0, 0), -1);
            Check.due("stream 256", Check.codeOf(kind, 65, 0, 0, 0), 2);
            Check.due("the greatest stream", Check.codeOf(kind, 191, 255, 255, 255, 0, 0), 2);
        }
    }

    /** "3 it reaches beyond the LIMIT that this end gave for the stream": the limit is 4. */
    private static void code3BeyondTheLimitOfAStream() {
        for (int s = 0; s < 4; s++) {
            for (int to = 0; to < 8; to++) {
                int want = to <= 4 ? -1 : 3;
                Check.due("no bytes at " + to, Check.codeOf(2, s, to, 0), want);
                Check.due("an end at " + to, Check.codeOf(2, s, to, 1), want);
                Check.due("a reset of " + to, Check.codeOf(5, s, to), want);
            }
            for (int n = 1; n <= 6; n++) {
                int[] frame = Arrays.copyOf(new int[] {2, s, 0, 2 * n}, 4 + n);
                Check.due(n + " bytes", Check.codeOf(frame), n <= 4 ? -1 : 3);
            }
        }
    }

    /** "the LIMIT that this end gave": what is due does not count, what was sent does. */
    private static void code3BeyondALimitThatWasGivenLater() {
        for (int to = 4; to <= 7; to++) {
            for (int isSent = 0; isSent < 2; isSent++) {
                StreamTransport x = new StreamTransport(0, 31);
                Check.craft(x, 1, 0, 2, 0, 0, 4, 1, 2);
                Check.drain(x, 1, 0, 2);
                if (isSent == 1) {
                    x.send(1);
                    x.lose(0);
                }
                Check.craft(x, 1, 1, 2, 0, to, 0);
                Check.due("to " + to + ", sent " + isSent, x.closed(1), to <= 4 + 2 * isSent ? -1 : 3);
            }
        }
    }

    /** "or the sum of how far all streams are reached .. is beyond the limit for ALL": the limit is 8. */
    private static void code3BeyondTheLimitForAll() {
        for (int last = 0; last <= 4; last++) {
            StreamTransport x = new StreamTransport(0, 0);
            Check.craft(x, 1, 0, 2, 0, 3, 0, 2, 1, 2, 1, 5, 2, 1);
            Check.craft(x, 1, 1, 2, 3, last, 0);
            Check.due("3 + 2 + 1 + " + last, x.closed(1), last <= 2 ? -1 : 3);
        }
        StreamTransport x = new StreamTransport(0, 0);
        Check.craft(x, 1, 0, 2, 0, 4, 0, 2, 1, 3, 0);
        Check.craft(x, 1, 1, 2, 1, 4, 0);
        Check.due("4 + 4", x.closed(1), -1);
        Check.craft(x, 1, 2, 5, 2, 1);
        Check.due("a reset above it", x.closed(1), 3);
    }

    /** "(this frame counts)": for what it reaches beyond before, no more. */
    private static void code3ThisFrameCounts() {
        StreamTransport x = new StreamTransport(15, 0);
        Check.craft(x, 1, 0, 2, 0, 7, 0);
        Check.craft(x, 1, 1, 2, 0, 8, 0);
        Check.due("8, not 7 + 8", x.closed(1), -1);
        Check.craft(x, 1, 2, 2, 0, 2, 0);
        Check.due("8, not 8 + 2", x.closed(1), -1);
        Check.craft(x, 1, 3, 2, 0, 9, 0);
        Check.due("9", x.closed(1), 3);
    }

    /** "3 it reaches beyond the LIMIT": so far that sums must not run over. */
    private static void code3HugePlaces() {
        StreamTransport x = new StreamTransport(0, 0);
        Check.craft(x, 1, 0, 2, 0, 4, 0, 2, 1, 4, 0);
        Check.craft(x, 1, 1, 2, 2, 191, 255, 255, 255, 4, 1, 1);
        Check.due("a STREAM", x.closed(1), 3);
        Check.due("a RESET", Check.codeOf(5, 0, 191, 255, 255, 255), 3);
        Check.due("an end", Check.codeOf(2, 0, 191, 255, 255, 255, 1), 3);
    }

    private static int codeBehind(int[] first, int... second) {
        StreamTransport x = new StreamTransport(4, 31);
        Check.due("first", Check.craft(x, 1, 0, first), 0);
        Check.due("first is right", x.closed(1), -1);
        Check.due("second", Check.craft(x, 1, 1, second), 0);
        return x.closed(1);
    }

    /** "4 it says a size below how far the stream was reached" */
    private static void code4SizeBelowTheReach() {
        int[][] reaching5 = {{2, 0, 5, 0}, {2, 0, 4, 2, 9}, {2, 0, 0, 10, 1, 2, 3, 4, 5}};
        for (int[] first : reaching5) {
            for (int size = 0; size <= 8; size++) {
                int want = size < 5 ? 4 : -1;
                Check.due("an end at " + size, codeBehind(first, 2, 0, size, 1), want);
                Check.due("a reset of " + size, codeBehind(first, 5, 0, size), want);
                Check.due("no size, at " + size, codeBehind(first, 2, 0, size, 0), -1);
            }
            Check.due("an end with bytes, at 4", codeBehind(first, 2, 0, 3, 3, 1), 4);
            Check.due("an end with bytes, at 5", codeBehind(first, 2, 0, 3, 5, 1, 1), -1);
        }
    }

    /** "or other than the size said before": by an end or by a reset. */
    private static void code4AnotherSize() {
        int[][] saying5 = {{2, 0, 5, 1}, {2, 0, 4, 3, 9}, {5, 0, 5}};
        for (int[] first : saying5) {
            for (int size = 0; size <= 8; size++) {
                int want = size == 5 ? -1 : 4;
                Check.due("an end at " + size, codeBehind(first, 2, 0, size, 1), want);
                Check.due("a reset of " + size, codeBehind(first, 5, 0, size), want);
            }
        }
        int[] saying0 = {2, 0, 0, 1};
        Check.due("0 is a size, too", codeBehind(saying0, 2, 0, 1, 1), 4);
        Check.due("0 again", codeBehind(saying0, 2, 0, 0, 1), -1);
        Check.due("another stream has its own", codeBehind(saying0, 2, 1, 1, 1), -1);
    }

    /** "or reaches beyond that" */
    private static void code4BeyondTheSize() {
        int[][] saying5 = {{2, 0, 5, 1}, {5, 0, 5}};
        for (int[] first : saying5) {
            for (int to = 0; to <= 8; to++) {
                Check.due("no bytes at " + to, codeBehind(first, 2, 0, to, 0), to <= 5 ? -1 : 4);
            }
            Check.due("bytes up to it", codeBehind(first, 2, 0, 3, 4, 1, 1), -1);
            Check.due("bytes beyond it", codeBehind(first, 2, 0, 3, 6, 1, 1, 1), 4);
        }
        int[] saying0 = {5, 0, 0};
        Check.due("a byte beyond 0", codeBehind(saying0, 2, 0, 0, 2, 1), 4);
        Check.due("no byte at 0", codeBehind(saying0, 2, 0, 0, 0), -1);
    }

    /** "(a RESET with the same one is right": and so is an end with the same one. */
    private static void sameSizeIsRight() {
        int[] end = {2, 0, 3, 1};
        int[] reset = {5, 0, 3};
        Check.due("end, end", codeBehind(end, end), -1);
        Check.due("end, reset", codeBehind(end, reset), -1);
        Check.due("reset, end", codeBehind(reset, end), -1);
        Check.due("reset, reset", codeBehind(reset, reset), -1);
    }

    /** "and resets it)": though all came, and all was read. */
    private static void resetWithTheSameSizeResets() {
        for (int read = 0; read <= 3; read++) {
            StreamTransport x = new StreamTransport(0, 0);
            Check.craft(x, 1, 0, 2, 0, 0, 7, 1, 2, 3);
            Check.drain(x, 1, 0, read);
            Check.craft(x, 1, 1, 5, 0, 3);
            Check.due("not closed", x.closed(1), -1);
            Check.due("reset, behind " + read, Check.read(x, 1, 0), Check.STATE);
            Check.due("nothing can be read", x.stream(1, 0, 6), 0);
            Check.due("read", x.stream(1, 0, 5), read);
            Check.due("size", x.stream(1, 0, 7), 3);
        }
    }

    /** End 0 has sent packets 0 to 9, with a byte each; an ACK comes. */
    private static StreamTransport afterAck(int... frame) {
        StreamTransport x = new StreamTransport(15, 31);
        for (int i = 0; i < 10; i++) {
            Check.fill(x, 0, 0, 1);
            x.send(0);
            x.lose(0);
        }
        Check.due("craft", Check.craft(x, 0, 0, frame), 0);
        return x;
    }

    /** "5 it acknowledges a packet never sent" */
    private static void code5NeverSent() {
        for (int l = 0; l < 64; l++) {
            Check.due("l " + l, afterAck(1, l, 0, 0).closed(0), l < 10 ? -1 : 5);
        }
        Check.due("10 to 9", afterAck(1, 10, 1, 0).closed(0), 5);
        Check.due("10, and 0 that was sent", afterAck(1, 10, 0, 1, 8, 0).closed(0), 5);
        Check.due("the greatest", afterAck(1, 191, 255, 255, 255, 0, 0).closed(0), 5);
        Check.due("nothing was sent at all", Check.codeOf(1, 0, 0, 0), 5);
        StreamTransport x = new StreamTransport(0, 0);
        Check.craft(x, 0, 0, 0);
        x.send(0);
        Check.craft(x, 0, 1, 1, 0, 0, 0);
        Check.due("a packet with ACK alone was sent, too", x.closed(0), -1);
    }

    /** "or one below 0" */
    private static void code5Below0() {
        for (int f = 0; f < 14; f++) {
            Check.due("f " + f, afterAck(1, 9, f, 0).closed(0), f < 10 ? -1 : 5);
        }
        for (int g = 0; g < 12; g++) {
            Check.due("g " + g, afterAck(1, 9, 2, 1, g, 0).closed(0), g < 6 ? -1 : 5);
            Check.due("n " + g, afterAck(1, 9, 2, 1, 0, g).closed(0), g < 6 ? -1 : 5);
            Check.due("second g " + g, afterAck(1, 9, 0, 2, 0, 0, g, 1).closed(0), g < 5 ? -1 : 5);
            Check.due("second n " + g, afterAck(1, 9, 0, 2, 0, 0, 1, g).closed(0), g < 5 ? -1 : 5);
        }
        Check.due("0, and one below", afterAck(1, 0, 0, 1, 0, 0).closed(0), 5);
        int[] far = {1, 9, 0, 2, 191, 255, 255, 255, 191, 255, 255, 255, 191, 255, 255, 255, 191, 255, 255, 255};
        Check.due("so far that sums must not run over", afterAck(far).closed(0), 5);
    }

    /** "What came before the wrong frame in the packet holds.": of a wrong ACK itself nothing does. */
    private static void code5CountsForNothing() {
        int[][] wrong = {{1, 10, 5, 0}, {1, 9, 10, 0}, {1, 9, 2, 1, 0, 6}, {1, 9, 0, 2, 0, 0, 5, 1}};
        for (int[] frame : wrong) {
            StreamTransport x = afterAck(frame);
            Check.due("closed", x.closed(0), 5);
            Check.due("nothing is acked", x.stream(0, 0, 2), 0);
            Check.due("nothing is lost", x.about(0, 1), 10);
        }
    }

    /** "with a code (the least that fits)" */
    private static void leastCodeThatFits() {
        int[] end3 = {2, 0, 3, 1};
        Check.due("1 and 2", Check.codeOf(2, 4, 0, 2), 1);
        Check.due("1 and 2, a number missing", Check.codeOf(4, 4), 1);
        Check.due("1 and 3", Check.codeOf(2, 0, 50, 2), 1);
        Check.due("1 and 4", codeBehind(end3, 2, 0, 4, 2), 1);
        Check.due("1 and 5", Check.codeOf(1, 9, 0, 1, 0), 1);
        Check.due("1 and 5, r 3", Check.codeOf(1, 9, 10, 3), 1);
        Check.due("2 and 3", Check.codeOf(5, 4, 63), 2);
        Check.due("3 and 4", codeBehind(end3, 2, 0, 9, 1), 3);
        Check.due("3 and 4, a reset", codeBehind(end3, 5, 0, 9), 3);
        Check.due("4 alone", codeBehind(end3, 5, 0, 8), 4);
        StreamTransport x = new StreamTransport(15, 0);
        Check.craft(x, 1, 0, 2, 1, 6, 0, 2, 0, 1, 1);
        Check.craft(x, 1, 1, 2, 0, 3, 1);
        Check.due("3, by the limit for all, and 4", x.closed(1), 3);
    }

    /** "the first that is WRONG closes the connection": a later one has no say, though its code is less. */
    private static void firstWrongFrameCounts() {
        Check.due("3, then 1", Check.codeOf(2, 0, 5, 0, 7), 3);
        Check.due("2, then CLOSE", Check.codeOf(4, 4, 0, 6, 9), 2);
        Check.due("5, then 2", Check.codeOf(1, 0, 0, 0, 5, 4, 0), 5);
    }

    /** "What came before the wrong frame in the packet holds." */
    private static void whatCameBeforeHolds() {
        StreamTransport x = new StreamTransport(0, 0);
        Check.fill(x, 1, 2, 1);
        x.send(1);
        Check.craft(x, 1, 0, 1, 0, 0, 0, 2, 0, 0, 5, 1, 2, 4, 1, 20, 3, 30, 5, 3, 2, 7, 4, 1, 40);
        Check.due("closed", x.closed(1), 1);
        Check.due("ACK", x.stream(1, 2, 2), 1);
        Check.due("STREAM", x.stream(1, 0, 6), 2);
        Check.due("its end", x.stream(1, 0, 7), 2);
        Check.due("LIMIT, and the one behind does not count", x.stream(1, 1, 3), 20);
        Check.due("LIMIT-ALL", x.about(1, 2), 30);
        Check.due("RESET", x.stream(1, 3, 7), 2);
        Check.due("the number was processed", x.about(1, 4), 0);
    }

    /** "the first that is WRONG closes the connection": nothing of it is taken. */
    private static void wrongFrameIsNotTaken() {
        int[][] wrong = {{2, 0, 0, 11, 1, 2, 3, 4, 5}, {2, 0, 5, 1}, {5, 0, 5}, {2, 4, 0, 3, 1}, {4, 4, 60}, {2, 0, 0, 9, 1}};
        for (int[] frame : wrong) {
            StreamTransport x = new StreamTransport(0, 0);
            Check.craft(x, 1, 0, frame);
            Check.due("closed", x.closed(1) > 0, true);
            for (int s = 0; s < 4; s++) {
                Check.due("nothing came", x.stream(1, s, 6), 0);
                Check.due("no size", x.stream(1, s, 7), -1);
                Check.due("no limit", x.stream(1, s, 3), 4);
                Check.due("not reset", Check.read(x, 1, s), Check.NO_ELEMENT);
            }
        }
    }
}
