/** Promise 5, and the limits that reading makes due. */
final class ReadTest {
    public static void main(String[] args) {
        inOrder();
        wrongCalls();
        firstByteStays();
        readWhenClosed();
        streamLimitByHalfAWindow();
        streamLimitOf64();
        limitForAll();
        limitForAllOf256();
        resetCountsForAll();
        limitsThatAreLost();
        Check.done();
    }

    private static void inOrder() {
        StreamTransport x = new StreamTransport(4, 8);
        Check.craft(x, 1, 0, 2, 0, 2, 4, 3, 4);
        Check.due("a gap", Check.read(x, 1, 0), Check.NO_ELEMENT);
        Check.due("ready", x.stream(1, 0, 6), 0);
        Check.craft(x, 1, 1, 2, 0, 0, 4, 1, 2);
        Check.due("ready", x.stream(1, 0, 6), 4);
        Check.drain(x, 1, 0, 4);
        Check.due("read", x.stream(1, 0, 5), 4);
        Check.due("all was read, the end is not known", Check.read(x, 1, 0), Check.NO_ELEMENT);
        Check.craft(x, 1, 2, 2, 0, 4, 1);
        Check.due("all was read, the end is known", Check.read(x, 1, 0), Check.UNSUPPORTED);
        Check.craft(x, 1, 3, 2, 1, 2, 3, 9);
        Check.due("the end is known, but not the bytes", Check.read(x, 1, 1), Check.NO_ELEMENT);
        Check.craft(x, 1, 4, 5, 1, 3);
        Check.due("reset", Check.read(x, 1, 1), Check.STATE);
        Check.craft(x, 1, 5, 5, 0, 4);
        Check.due("reset goes ahead of the end", Check.read(x, 1, 0), Check.STATE);
        Check.craft(x, 1, 6, 2, 2, 0, 2, 255);
        Check.due("a byte has no sign", Check.read(x, 1, 2), 255);
    }

    private static void wrongCalls() {
        StreamTransport x = new StreamTransport(0, 0);
        int[][] wrong = {{-1, 0}, {2, 0}, {0, -1}, {0, 4}, {Integer.MIN_VALUE, 0}, {1, Integer.MAX_VALUE}};
        for (int[] w : wrong) {
            Check.due("read(" + w[0] + ", " + w[1] + ")", Check.read(x, w[0], w[1]), Check.ARGUMENT);
        }
        Check.fill(x, 0, 0, 1);
        Check.passes("a byte", x, 0);
        Check.due("an end reads the other end's stream", Check.read(x, 0, 0), Check.NO_ELEMENT);
        Check.due("the byte", Check.read(x, 1, 0), 1);
    }

    private static void firstByteStays() {
        StreamTransport x = new StreamTransport(4, 8);
        Check.craft(x, 0, 0, 2, 0, 1, 2, 50);
        Check.craft(x, 0, 1, 2, 0, 0, 6, 60, 61, 62);
        Check.due("0", Check.read(x, 0, 0), 60);
        Check.due("1 came before", Check.read(x, 0, 0), 50);
        Check.due("2", Check.read(x, 0, 0), 62);
    }

    private static void readWhenClosed() {
        StreamTransport x = new StreamTransport(0, 0);
        Check.craft(x, 1, 0, 2, 0, 0, 4, 1, 2, 99);
        Check.due("closed", x.closed(1), 1);
        Check.drain(x, 1, 0, 2);
        Check.due("nothing more", Check.read(x, 1, 0), Check.NO_ELEMENT);
        x.close(0, 1);
        Check.due("closed and nothing came", Check.read(x, 0, 0), Check.NO_ELEMENT);
        StreamTransport y = new StreamTransport(0, 0);
        Check.craft(y, 1, 0, 2, 0, 0, 1, 5, 1, 0, 6, 9);
        Check.due("finished, at a closed end", Check.read(y, 1, 0), Check.UNSUPPORTED);
        Check.due("reset, at a closed end", Check.read(y, 1, 1), Check.STATE);
        Check.due("no stream, at a closed end", Check.read(y, 1, 4), Check.ARGUMENT);
    }

    private static void streamLimitByHalfAWindow() {
        StreamTransport x = new StreamTransport(5, 31);
        Check.craft(x, 1, 0, 2, 1, 0, 18, 1, 2, 3, 4, 5, 6, 7, 8, 9);
        x.send(1);
        Check.drain(x, 1, 1, 3);
        Check.due("below half of 9, cut off", x.send(1), -1);
        Check.drain(x, 1, 1, 1);
        Check.due("what is given is what was sent", x.stream(1, 1, 8), 9);
        Check.drain(x, 1, 1, 1);
        Check.sends("4 or more, as it is when it is sent", x, 1, 1, 4, 1, 14);
        Check.due("given", x.stream(1, 1, 8), 14);
        Check.due("the others' limits stay", x.stream(1, 0, 8), 9);
        Check.drain(x, 1, 1, 3);
        Check.due("below half again", x.send(1), -1);
        Check.craft(x, 1, 1, 2, 1, 9, 1);
        Check.drain(x, 1, 1, 1);
        Check.due("due though the size is known; with the ack", x.send(1), 10);
        Check.due("given", x.stream(1, 1, 8), 18);
    }

    private static void streamLimitOf64() {
        StreamTransport x = new StreamTransport(15, 31);
        Check.fill(x, 0, 0, 64);
        int read = 0;
        for (int round = 0; round < 44 && read < 44; round++) {
            pump(x);
            int n = Math.min(x.stream(1, 0, 6), 44 - read);
            Check.drain(x, 1, 0, n);
            read += n;
        }
        pump(x);
        int given = x.stream(1, 0, 8);
        Check.due("given is near 64", given >= 55 && given < 64, true);
        Check.drain(x, 1, 0, 1);
        Check.due("64 is due, though it is less than half a window more", x.send(1) > 0, true);
        Check.due("given", x.stream(1, 0, 8), 64);
        pump(x);
        Check.drain(x, 1, 0, 19);
        Check.due("64 is given but once: the limit for all alone is due", x.send(1), 6);
        Check.due("all bytes are acked", x.stream(0, 0, 2), 64);
        Check.due("all limits", x.stream(0, 0, 3), 64);
        Check.due("all was read", x.stream(1, 0, 5), 64);
        Check.due("never above 64", x.stream(1, 0, 8), 64);
    }

    /** Delivers to and fro until nothing is left. */
    private static void pump(StreamTransport x) {
        for (int i = 0; i < 20; i++) {
            x.send(0);
            x.send(1);
            if (x.packets() == 0) {
                return;
            }
            for (int left = x.packets(); left > 0; left--) {
                x.deliver(0);
            }
        }
    }

    private static void limitForAll() {
        StreamTransport x = new StreamTransport(15, 1);
        Check.craft(x, 1, 0, 2, 0, 0, 6, 1, 2, 3, 2, 3, 0, 6, 1, 2, 3);
        x.send(1);
        Check.drain(x, 1, 0, 3);
        Check.due("below half of 9, cut off", x.send(1), -1);
        Check.drain(x, 1, 3, 1);
        Check.due("given is what was sent", x.about(1, 3), 9);
        Check.drain(x, 1, 3, 1);
        Check.sends("limit for all", x, 1, 1, 3, 14);
        Check.due("given", x.about(1, 3), 14);
        Check.due("other end, as it was lost", x.about(0, 2), 9);
    }

    /** End 1 reads 45 bytes of each stream and then has its limit at 64, which a reset uses up. */
    private static void limitForAllOf256() {
        StreamTransport x = new StreamTransport(15, 31);
        int number = 0;
        for (int s = 0; s < 3; s++) {
            number = readTo(x, s, 45, number);
            Check.craft(x, 1, number++, 5, s, 64, 64);
            x.send(1);
        }
        number = readTo(x, 3, 24, number);
        Check.due("u is 216", x.about(1, 3) < 256, true);
        x.send(1);
        for (int left = x.packets(); left > 0; left--) {
            x.lose(0);
        }
        Check.craft(x, 1, number++, 2, 3, 24, 2, 25);
        Check.sends("ack", x, 1, x.about(1, 0) % 16, 1, number - 1, number - 1, 0);
        int given = x.about(1, 3);
        Check.due("given is near 256", given > 256 - 19 && given < 256, true);
        Check.drain(x, 1, 3, 1);
        Check.sends("256 is due, by less than half a window", x, 1, x.about(1, 0) % 16, 3, 65, 0);
        Check.due("given", x.about(1, 3), 256);
        number = readTo(x, 3, 45, number);
        Check.craft(x, 1, number, 5, 3, 64, 64);
        Check.due("not closed", x.closed(1), -1);
        x.send(1);
        Check.due("never above 256", x.about(1, 3), 256);
    }

    /** Bytes of a stream come to end 1 and are read, up to a place; what end 1 sends then is passed over. */
    private static int readTo(StreamTransport x, int stream, int place, int number) {
        int next = number;
        for (int at = x.stream(1, stream, 5); at < place; at += 12) {
            int n = Math.min(12, place - at);
            int[] frame = new int[4 + n];
            frame[0] = 2;
            frame[1] = stream;
            frame[2] = at;
            frame[3] = 2 * n;
            for (int i = 0; i < n; i++) {
                frame[4 + i] = at + i + 1;
            }
            Check.due("craft", Check.craft(x, 1, next, frame), 0);
            next++;
            for (int i = 0; i < n; i++) {
                Check.due("byte", Check.read(x, 1, stream), at + i + 1);
            }
            x.send(1);
        }
        return next;
    }

    private static void resetCountsForAll() {
        StreamTransport x = new StreamTransport(15, 0);
        Check.craft(x, 1, 0, 2, 0, 0, 4, 1, 2);
        Check.drain(x, 1, 0, 1);
        Check.craft(x, 1, 1, 5, 0, 3);
        Check.sends("ack alone: 3 is below half of 8", x, 1, 0, 1, 1, 1, 0);
        Check.craft(x, 1, 2, 5, 1, 1);
        Check.sends("a stream that is reset counts with its size", x, 1, 1, 1, 2, 2, 0, 3, 12);
        // What is due when a stream is reset stays so.
        StreamTransport y = new StreamTransport(0, 31);
        Check.craft(y, 1, 0, 2, 0, 0, 4, 1, 2);
        Check.drain(y, 1, 0, 2);
        Check.craft(y, 1, 1, 5, 0, 4);
        Check.sends("limit of a reset stream", y, 1, 0, 1, 1, 1, 0, 4, 0, 6);
    }

    private static void limitsThatAreLost() {
        StreamTransport x = new StreamTransport(4, 0);
        Check.craft(x, 1, 0, 2, 0, 0, 16, 1, 2, 3, 4, 5, 6, 7, 8);
        Check.drain(x, 1, 0, 4);
        Check.sends("limits", x, 1, 0, 1, 0, 0, 0, 3, 12, 4, 0, 12);
        Check.drain(x, 1, 0, 1);
        Check.ticks(x, 6);
        Check.sends("due again, as it is reckoned then", x, 1, 1, 3, 13, 4, 0, 13);
        Check.drain(x, 1, 0, 3);
        Check.due("less than half a window more", x.send(1), -1);
        Check.craft(x, 1, 1, 2, 0, 8, 2, 9);
        Check.drain(x, 1, 0, 1);
        Check.sends("later limits", x, 1, 2, 1, 1, 1, 0, 3, 17, 4, 0, 17);
        Check.ticks(x, 12);
        Check.due("the earlier packet is lost", x.about(1, 1), 1);
        Check.sends("its limits are not the latest: a probe", x, 1, 3, 0);
        Check.ticks(x, 24);
        Check.sends("the latest limits, lost", x, 1, 4, 3, 17, 4, 0, 17);
    }
}
