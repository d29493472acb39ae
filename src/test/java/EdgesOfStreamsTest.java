/** The edges that the first paragraph of the Terms names: ends, streams, bytes, sizes, windows. */
final class EdgesOfStreamsTest {
    public static void main(String[] args) {
        everyStreamOfEveryEnd();
        atMost64AreWritten();
        all64Arrive();
        sizeOfAFinishedStream();
        sizeOfAFinishedStreamIsWhatWasWritten();
        sizeOfAResetStream();
        sizeOfAResetStreamWithoutBytes();
        sizeOfAResetStreamCountsWhatWasLost();
        leastAndGreatestStreamWindow();
        leastAndGreatestWindowForAll();
        higherBitsOfTheWindowsCountForNothing();
        Check.done();
    }

    /** "ENDS are 0 and 1. Each has STREAMS 0 .. 3 that it writes, and reads those of the other one." */
    private static void everyStreamOfEveryEnd() {
        StreamTransport x = new StreamTransport(0, 0);
        for (int end = 0; end < 2; end++) {
            for (int s = 0; s < 4; s++) {
                Check.due("write", Check.write(x, end, s, 1, 10 * end + s + 1), 1);
            }
        }
        Check.passes("end 0", x, 0);
        Check.passes("end 1", x, 1);
        for (int end = 0; end < 2; end++) {
            for (int s = 0; s < 4; s++) {
                Check.due("stream " + s + " of end " + end, Check.read(x, 1 - end, s), 10 * end + s + 1);
            }
        }
    }

    /** "A stream has the bytes that were WRITTEN (at most 64)" */
    private static void atMost64AreWritten() {
        for (int n = 1; n <= 8; n++) {
            StreamTransport x = new StreamTransport(0, 0);
            Check.fill(x, 0, 0, 64 - n);
            Check.fill(x, 0, 1, 64 - n + 1);
            Check.due("to 64 by " + n, Check.write(x, 0, 0, n, 0), 64);
            Check.due("to 65 by " + n, Check.write(x, 0, 1, n, 0), Check.STATE);
            Check.due("nothing was written", x.stream(0, 1, 0), 64 - n + 1);
            Check.due("beyond 64", Check.write(x, 0, 0, 1, 0), Check.STATE);
            Check.due("another stream has its own 64", Check.write(x, 0, 2, n, 0), n);
        }
    }

    /** "A stream has the bytes that were WRITTEN (at most 64), perhaps an end" */
    private static void all64Arrive() {
        StreamTransport x = new StreamTransport(15, 31);
        Check.fill(x, 0, 3, 64);
        x.finish(0, 3);
        for (int round = 0; round < 12 && x.stream(0, 3, 4) == 0; round++) {
            x.send(0);
            x.deliver(0);
            Check.drain(x, 1, 3, x.stream(1, 3, 6));
            x.send(1);
            x.deliver(0);
        }
        Check.due("read", x.stream(1, 3, 5), 64);
        Check.due("size", x.stream(1, 3, 7), 64);
        Check.due("behind the 64th", Check.read(x, 1, 3), Check.UNSUPPORTED);
        Check.due("acked", x.stream(0, 3, 2), 64);
        Check.due("and the end", x.stream(0, 3, 4), 1);
    }

    /** "it is FINISHED: its SIZE is how many were written" */
    private static void sizeOfAFinishedStream() {
        for (int n = 0; n <= 4; n++) {
            StreamTransport x = new StreamTransport(0, 0);
            Check.fill(x, 0, 1, n);
            x.finish(0, 1);
            Check.due("size before", x.stream(1, 1, 7), -1);
            Check.passes("with the end", x, 0);
            Check.due("size of " + n, x.stream(1, 1, 7), n);
            Check.due("can be read", x.stream(1, 1, 6), n);
        }
    }

    /** "its SIZE is how many were written": not how many the limits let through. */
    private static void sizeOfAFinishedStreamIsWhatWasWritten() {
        StreamTransport x = new StreamTransport(0, 0);
        Check.fill(x, 0, 1, 5);
        x.finish(0, 1);
        Check.passes("four of five", x, 0);
        Check.due("the size is not known", x.stream(1, 1, 7), -1);
        Check.drain(x, 1, 1, 4);
        Check.due("nor the end", Check.read(x, 1, 1), Check.NO_ELEMENT);
        Check.passes("the limit", x, 1);
        Check.passes("the fifth", x, 0);
        Check.due("size", x.stream(1, 1, 7), 5);
    }

    /** "its size is then how many of its bytes were ever sent (1 + the greatest place of one that was" */
    private static void sizeOfAResetStream() {
        for (int n = 1; n <= 6; n++) {
            StreamTransport x = new StreamTransport(0, 0);
            Check.fill(x, 0, 2, n);
            Check.passes("as many as the limit allows", x, 0);
            x.reset(0, 2);
            int sent = Math.min(n, 4);
            Check.due("a RESET", x.send(0), 6);
            Check.bytes("a RESET after " + n, x, 0, 1, 5, 2, sent);
            x.deliver(0);
            Check.due("size", x.stream(1, 2, 7), sent);
        }
    }

    /** "0 without any": nothing written, nothing sent, and an end that was not sent. */
    private static void sizeOfAResetStreamWithoutBytes() {
        StreamTransport x = new StreamTransport(0, 0);
        Check.fill(x, 0, 1, 7);
        Check.fill(x, 0, 2, 7);
        x.finish(0, 2);
        for (int s = 0; s < 3; s++) {
            x.reset(0, s);
        }
        Check.due("send", x.send(0), 12);
        Check.bytes("three RESETs", x, 0, 0, 5, 0, 0, 5, 1, 0, 5, 2, 0);
        x.deliver(0);
        for (int s = 0; s < 3; s++) {
            Check.due("size of stream " + s, x.stream(1, s, 7), 0);
        }
        Check.due("not reset", x.stream(1, 3, 7), -1);
    }

    /** "how many of its bytes were ever sent": also when they came nowhere. */
    private static void sizeOfAResetStreamCountsWhatWasLost() {
        StreamTransport x = new StreamTransport(0, 0);
        Check.fill(x, 0, 0, 3);
        x.send(0);
        x.lose(0);
        Check.ticks(x, 6);
        x.reset(0, 0);
        Check.sends("three were sent", x, 0, 1, 5, 0, 3);
    }

    /** "SW is 4 + the lowest four bits of the constructor's first argument" */
    private static void leastAndGreatestStreamWindow() {
        for (int a = 0; a < 16; a++) {
            StreamTransport x = new StreamTransport(a, 31);
            Check.due("limit that it has", x.stream(0, 0, 3), 4 + a);
            Check.due("limit that it gave", x.stream(1, 0, 8), 4 + a);
            Check.fill(x, 0, 0, 24);
            x.send(0);
            x.send(0);
            Check.due("so many are sent", x.stream(0, 0, 1), 4 + a);
            x.deliver(0);
            x.deliver(0);
            Check.due("so many come", x.stream(1, 0, 6), 4 + a);
            StreamTransport y = new StreamTransport(a, 31);
            Check.craft(y, 1, 0, 2, 0, 4 + a, 0);
            Check.due("to the limit", y.closed(1), -1);
            Check.craft(y, 1, 1, 2, 0, 5 + a, 0);
            Check.due("beyond the limit", y.closed(1), 3);
        }
    }

    /** "CW 8 + the lowest five of its second one" */
    private static void leastAndGreatestWindowForAll() {
        for (int b = 0; b < 32; b++) {
            StreamTransport x = new StreamTransport(15, b);
            Check.due("limit that it has", x.about(0, 2), 8 + b);
            Check.due("limit that it gave", x.about(1, 3), 8 + b);
            for (int s = 0; s < 3; s++) {
                Check.fill(x, 0, s, 19);
            }
            for (int i = 0; i < 4; i++) {
                x.send(0);
            }
            Check.due("so many are sent", x.stream(0, 0, 1) + x.stream(0, 1, 1) + x.stream(0, 2, 1), 8 + b);
            StreamTransport y = new StreamTransport(15, b);
            int first = Math.min(8 + b, 19);
            int second = Math.min(8 + b - first, 19);
            int third = 8 + b - first - second;
            Check.craft(y, 1, 0, 5, 0, first, 5, 1, second, 5, 2, third);
            Check.due("to the limit", y.closed(1), -1);
            Check.craft(y, 1, 1, 2, 3, 1, 0);
            Check.due("beyond the limit", y.closed(1), 3);
        }
    }

    /** "the lowest four bits", "the lowest five": of any number, also one below 0. */
    private static void higherBitsOfTheWindowsCountForNothing() {
        int[][] cases = {{16, 32, 4, 8}, {31, 63, 19, 39}, {-1, -1, 19, 39}, {-16, -32, 4, 8}, {-17, -33, 19, 39},
            {Integer.MIN_VALUE, Integer.MIN_VALUE, 4, 8}, {Integer.MAX_VALUE, Integer.MAX_VALUE, 19, 39}, {0x7FFFFF05, 0x80000011, 9, 25}};
        for (int[] c : cases) {
            StreamTransport x = new StreamTransport(c[0], c[1]);
            for (int end = 0; end < 2; end++) {
                Check.due("CW of " + c[1], x.about(end, 2), c[3]);
                Check.due("CW given of " + c[1], x.about(end, 3), c[3]);
                for (int s = 0; s < 4; s++) {
                    Check.due("SW of " + c[0], x.stream(end, s, 3), c[2]);
                    Check.due("SW given of " + c[0], x.stream(end, s, 8), c[2]);
                }
            }
        }
    }
}
