/** Promise 19. */
final class StreamTest {
    public static void main(String[] args) {
        noSuch();
        written();
        done();
        reading();
        Check.done();
    }

    private static void noSuch() {
        StreamTransport x = new StreamTransport(0, 0);
        for (int what = 0; what < 9; what++) {
            Check.due("end -1", x.stream(-1, 0, what), -1);
            Check.due("end 2", x.stream(2, 0, what), -1);
            Check.due("stream -1", x.stream(0, -1, what), -1);
            Check.due("stream 4", x.stream(0, 4, what), -1);
        }
        for (int what : new int[] {-1, 9, 10, Integer.MIN_VALUE, Integer.MAX_VALUE}) {
            Check.due("what " + what, x.stream(0, 0, what), -1);
        }
    }

    private static void written() {
        StreamTransport x = new StreamTransport(0, 0);
        Check.fill(x, 0, 2, 7);
        Check.due("written", x.stream(0, 2, 0), 7);
        Check.due("sent", x.stream(0, 2, 1), 0);
        Check.passes("four", x, 0);
        Check.due("sent", x.stream(0, 2, 1), 4);
        Check.due("acked", x.stream(0, 2, 2), 0);
        Check.due("limit", x.stream(0, 2, 3), 4);
        Check.drain(x, 1, 2, 3);
        Check.passes("ack and limit", x, 1);
        Check.due("acked", x.stream(0, 2, 2), 4);
        Check.due("limit", x.stream(0, 2, 3), 7);
        Check.passes("the rest", x, 0);
        Check.due("sent", x.stream(0, 2, 1), 7);
        Check.due("another stream", x.stream(0, 1, 0), 0);
        Check.due("the other end", x.stream(1, 2, 0), 0);
    }

    private static void done() {
        StreamTransport x = new StreamTransport(15, 31);
        Check.fill(x, 0, 0, 2);
        x.send(0);
        Check.craft(x, 0, 0, 1, 0, 0, 0);
        Check.due("all bytes, but no end", x.stream(0, 0, 4), 0);
        x.finish(0, 0);
        Check.due("the end was not sent", x.stream(0, 0, 4), 0);
        x.send(0);
        Check.due("the end was not acked", x.stream(0, 0, 4), 0);
        Check.craft(x, 0, 1, 1, 1, 0, 0);
        Check.due("the end is acked", x.stream(0, 0, 4), 1);
        x.reset(0, 1);
        Check.due("the reset was not sent", x.stream(0, 1, 4), 0);
        x.send(0);
        Check.due("the reset was not acked", x.stream(0, 1, 4), 0);
        Check.craft(x, 0, 2, 1, 2, 0, 0);
        Check.due("the reset is acked", x.stream(0, 1, 4), 1);
        Check.due("another stream", x.stream(0, 2, 4), 0);
    }

    private static void reading() {
        StreamTransport x = new StreamTransport(4, 8);
        Check.craft(x, 1, 0, 2, 3, 0, 6, 1, 2, 3);
        Check.craft(x, 1, 1, 2, 3, 4, 5, 5, 6);
        Check.due("ready", x.stream(1, 3, 6), 3);
        Check.due("size", x.stream(1, 3, 7), 6);
        Check.drain(x, 1, 3, 2);
        Check.due("read", x.stream(1, 3, 5), 2);
        Check.due("ready", x.stream(1, 3, 6), 1);
        Check.craft(x, 1, 2, 2, 3, 3, 2, 4);
        Check.due("ready", x.stream(1, 3, 6), 4);
        Check.drain(x, 1, 3, 4);
        Check.due("ready", x.stream(1, 3, 6), 0);
        Check.due("given, before it is sent", x.stream(1, 3, 8), 8);
        x.send(1);
        Check.due("given", x.stream(1, 3, 8), 14);
        Check.craft(x, 1, 3, 2, 0, 0, 4, 1, 2);
        Check.drain(x, 1, 0, 1);
        Check.craft(x, 1, 4, 5, 0, 5);
        Check.due("size of a reset one", x.stream(1, 0, 7), 5);
        Check.due("ready of a reset one", x.stream(1, 0, 6), 0);
        Check.due("read of a reset one", x.stream(1, 0, 5), 1);
        Check.due("of the other end", x.stream(0, 3, 6), 0);
    }
}
