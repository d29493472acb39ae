/** The edges that the promises name: wrong arguments, wrong states, and that a refused call changes nothing. */
final class EdgesOfCallsTest {
    private static final int LEAST = Integer.MIN_VALUE;
    private static final int MOST = Integer.MAX_VALUE;

    public static void main(String[] args) {
        writeCounts();
        writeWrongArguments();
        writeWrongStates();
        writeArgumentsAheadOfStates();
        finishRefused();
        resetRefused();
        resetFinishedOrNot();
        readRefused();
        readInThisOrder();
        readAtAClosedEnd();
        closeCodes();
        closeRefused();
        sendRefused();
        sendWhen16AreUnderWay();
        deliverRefused();
        deliverClosedAhead();
        loseRefused();
        copyRefused();
        copyWhen16AreUnderWay();
        spoilRefused();
        spoilEdges();
        rawCounts();
        rawRefused();
        craftNumbers();
        craftRefused();
        craftUsesUpTheRawBytes();
        craftWithoutRawBytes();
        ticksFrom1To512();
        packetsUpTo16();
        packetEdges();
        closedEdges();
        aboutEdges();
        streamEdges();
        greatestProcessedOfNone();
        streamWithoutBytesIsDoneByItsEnd();
        streamIsDoneByAllBytesAndTheEnd();
        streamIsDoneByItsReset();
        readableOfAResetStream();
        sizeThatIsNotKnown();
        Check.done();
    }

    private static final int[] NO_ENDS = {-1, 2, 3, LEAST, MOST};
    private static final int[] NO_STREAMS = {-1, 4, 5, LEAST, MOST};

    /** Something of everything: packets under way, bytes read and unread, streams finished and reset, raw bytes. */
    private static StreamTransport busy() {
        StreamTransport x = new StreamTransport(0, 0);
        Check.fill(x, 0, 0, 6);
        x.finish(0, 1);
        x.reset(0, 2);
        x.send(0);
        x.copy(0);
        x.deliver(0);
        Check.drain(x, 1, 0, 1);
        Check.fill(x, 1, 3, 2);
        x.send(1);
        x.tick();
        x.raw(2, 0);
        return x;
    }

    private static String all(StreamTransport x) {
        return Check.state(x, 0) + Check.state(x, 1) + Check.way(x);
    }

    private static void same(String what, StreamTransport x, String before) {
        Check.due(what + ": nothing changed", all(x).equals(before), true);
    }

    /** "The n (1 .. 8) lowest bytes of w, the lowest first, are written ..: how many were written to it." */
    private static void writeCounts() {
        long w = 0x8877665544332211L;
        for (int n = 1; n <= 8; n++) {
            StreamTransport x = new StreamTransport(15, 31);
            Check.due("write " + n, Check.write(x, 0, 0, n, w), n);
            Check.due("write " + n + " again", Check.write(x, 0, 0, n, ~w), 2 * n);
            Check.passes("bytes", x, 0);
            x.send(0);
            x.deliver(0);
            for (int i = 0; i < n; i++) {
                Check.due("byte " + i + " of " + n, Check.read(x, 1, 0), 0x11 * (i + 1));
            }
            for (int i = 0; i < n; i++) {
                Check.due("byte " + (n + i) + " of " + n, Check.read(x, 1, 0), 255 - 0x11 * (i + 1));
            }
        }
    }

    /** "IllegalArgumentException when there is no such end or stream, or n is not so" */
    private static void writeWrongArguments() {
        StreamTransport x = busy();
        String before = all(x);
        for (int end : NO_ENDS) {
            Check.due("write to end " + end, Check.write(x, end, 0, 1, 1), Check.ARGUMENT);
        }
        for (int s : NO_STREAMS) {
            Check.due("write to stream " + s, Check.write(x, 0, s, 1, 1), Check.ARGUMENT);
        }
        for (int n : new int[] {0, -1, 9, 10, 64, LEAST, MOST}) {
            Check.due("write " + n, Check.write(x, 0, 0, n, 1), Check.ARGUMENT);
        }
        same("write", x, before);
    }

    /** "IllegalStateException when it is finished or reset, the end is closed, or there would be more than 64." */
    private static void writeWrongStates() {
        StreamTransport x = busy();
        Check.fill(x, 0, 3, 60);
        String before = all(x);
        Check.due("finished", Check.write(x, 0, 1, 1, 1), Check.STATE);
        Check.due("reset", Check.write(x, 0, 2, 1, 1), Check.STATE);
        Check.due("65", Check.write(x, 0, 3, 5, 1), Check.STATE);
        same("write", x, before);
        Check.due("64", Check.write(x, 0, 3, 4, 1), 64);
        Check.due("65", Check.write(x, 0, 3, 1, 1), Check.STATE);
        x.close(0, 0);
        before = Check.state(x, 0);
        Check.due("closed", Check.write(x, 0, 0, 1, 1), Check.STATE);
        Check.due("nothing changed", Check.state(x, 0).equals(before), true);
        StreamTransport y = new StreamTransport(0, 0);
        Check.craft(y, 0, 0, 6, 0);
        Check.due("closed by a CLOSE", Check.write(y, 0, 0, 1, 1), Check.STATE);
        StreamTransport z = new StreamTransport(0, 0);
        Check.craft(z, 0, 0, 7);
        Check.due("closed by a wrong frame", Check.write(z, 0, 0, 1, 1), Check.STATE);
        Check.due("the other end is not", Check.write(z, 1, 0, 1, 1), 1);
    }

    /** The two exceptions of write: a wrong argument is looked at first. */
    private static void writeArgumentsAheadOfStates() {
        StreamTransport x = busy();
        Check.due("n 0, finished", Check.write(x, 0, 1, 0, 1), Check.ARGUMENT);
        Check.due("n 9, reset", Check.write(x, 0, 2, 9, 1), Check.ARGUMENT);
        x.close(0, 0);
        Check.due("stream 4, closed", Check.write(x, 0, 4, 1, 1), Check.ARGUMENT);
    }

    /** "false when it is finished or reset, the end is closed, or there is no such end or stream" */
    private static void finishRefused() {
        StreamTransport x = busy();
        String before = all(x);
        Check.due("finished", x.finish(0, 1), false);
        Check.due("reset", x.finish(0, 2), false);
        for (int end : NO_ENDS) {
            Check.due("finish at end " + end, x.finish(end, 0), false);
        }
        for (int s : NO_STREAMS) {
            Check.due("finish stream " + s, x.finish(0, s), false);
        }
        same("finish", x, before);
        Check.due("stream 3", x.finish(0, 3), true);
        Check.due("stream 3 again", x.finish(0, 3), false);
        x.close(0, 0);
        Check.due("closed", x.finish(0, 0), false);
        Check.due("the other end", x.finish(1, 0), true);
        StreamTransport y = new StreamTransport(0, 0);
        Check.craft(y, 0, 0, 6, 0);
        Check.due("closed by a CLOSE", y.finish(0, 0), false);
    }

    /** "false when it is reset, the end is closed, or there is no such end or stream" */
    private static void resetRefused() {
        StreamTransport x = busy();
        String before = all(x);
        Check.due("reset", x.reset(0, 2), false);
        for (int end : NO_ENDS) {
            Check.due("reset at end " + end, x.reset(end, 0), false);
        }
        for (int s : NO_STREAMS) {
            Check.due("reset stream " + s, x.reset(0, s), false);
        }
        same("reset", x, before);
        x.close(0, 0);
        Check.due("closed", x.reset(0, 0), false);
        Check.due("the other end", x.reset(1, 0), true);
        StreamTransport y = new StreamTransport(0, 0);
        Check.craft(y, 0, 0, 7);
        Check.due("closed by a wrong frame", y.reset(0, 0), false);
    }

    /** "A stream of an end is reset (finished or not): true" */
    private static void resetFinishedOrNot() {
        StreamTransport x = new StreamTransport(0, 0);
        x.finish(0, 0);
        Check.due("finished", x.reset(0, 0), true);
        Check.due("not finished", x.reset(0, 1), true);
        Check.due("finish then", x.finish(0, 1), false);
        Check.due("reset then", x.reset(0, 1), false);
        Check.sends("both, without an end", x, 0, 0, 5, 0, 0, 5, 1, 0);
    }

    /** "IllegalArgumentException when there is no such end or stream" and the other three, each changes nothing. */
    private static void readRefused() {
        StreamTransport x = busy();
        Check.craft(x, 1, 1, 2, 3, 1, 3, 9);
        String before = all(x);
        for (int end : NO_ENDS) {
            Check.due("read at end " + end, Check.read(x, end, 0), Check.ARGUMENT);
        }
        for (int s : NO_STREAMS) {
            Check.due("read stream " + s, Check.read(x, 1, s), Check.ARGUMENT);
        }
        Check.due("finished and all was read", Check.read(x, 1, 1), Check.UNSUPPORTED);
        Check.due("reset", Check.read(x, 1, 2), Check.STATE);
        Check.due("finished, the next has not come", Check.read(x, 1, 3), Check.NO_ELEMENT);
        Check.due("nothing came", Check.read(x, 0, 0), Check.NO_ELEMENT);
        same("read", x, before);
    }

    /** Reset, then finished, then not come: what stands first goes ahead. */
    private static void readInThisOrder() {
        StreamTransport x = new StreamTransport(0, 0);
        Check.craft(x, 1, 0, 2, 0, 0, 3, 1);
        Check.drain(x, 1, 0, 1);
        Check.due("finished", Check.read(x, 1, 0), Check.UNSUPPORTED);
        Check.craft(x, 1, 1, 5, 0, 1);
        Check.due("reset goes ahead", Check.read(x, 1, 0), Check.STATE);
        Check.craft(x, 1, 2, 5, 1, 0);
        Check.due("reset goes ahead of what has not come", Check.read(x, 1, 1), Check.STATE);
    }

    /** "(also when the end is closed)", "(Also at an end that is closed; .. when a frame said so.)" */
    private static void readAtAClosedEnd() {
        StreamTransport x = new StreamTransport(0, 0);
        Check.craft(x, 1, 0, 2, 0, 0, 5, 1, 2, 5, 1, 1, 2, 2, 0, 2, 1, 6, 0);
        Check.due("closed", x.closed(1), 0);
        Check.drain(x, 1, 0, 2);
        Check.due("finished", Check.read(x, 1, 0), Check.UNSUPPORTED);
        Check.due("reset", Check.read(x, 1, 1), Check.STATE);
        Check.drain(x, 1, 2, 1);
        Check.due("not come", Check.read(x, 1, 2), Check.NO_ELEMENT);
        Check.due("no stream", Check.read(x, 1, 4), Check.ARGUMENT);
        Check.due("counted", x.stream(1, 0, 5), 2);
        Check.due("nothing is sent", x.send(1), -1);
        StreamTransport y = new StreamTransport(0, 0);
        Check.fill(y, 0, 0, 1);
        y.finish(0, 0);
        y.reset(0, 1);
        y.close(0, 1);
        Check.due("what its writer did was not said", Check.read(y, 1, 0), Check.NO_ELEMENT);
        Check.due("nor the reset", Check.read(y, 1, 1), Check.NO_ELEMENT);
    }

    /** "closed with a code 0 .. 63: true" */
    private static void closeCodes() {
        for (int code = -2; code < 66; code++) {
            StreamTransport x = new StreamTransport(0, 0);
            boolean isCode = code >= 0 && code <= 63;
            Check.due("code " + code, x.close(1, code), isCode);
            Check.due("closed", x.closed(1), isCode ? code : -1);
            Check.due("the other end", x.closed(0), -1);
        }
    }

    /** "An end that is not closed .. false otherwise." */
    private static void closeRefused() {
        StreamTransport x = busy();
        String before = all(x);
        for (int end : NO_ENDS) {
            Check.due("close end " + end, x.close(end, 1), false);
        }
        for (int code : new int[] {-1, 64, 65, LEAST, MOST}) {
            Check.due("code " + code, x.close(0, code), false);
        }
        same("close", x, before);
        Check.due("close", x.close(0, 63), true);
        Check.due("closed", x.close(0, 0), false);
        Check.due("its code", x.closed(0), 63);
        StreamTransport y = new StreamTransport(0, 0);
        Check.craft(y, 0, 0, 6, 5);
        Check.due("closed by a CLOSE", y.close(0, 1), false);
        Check.due("its code", y.closed(0), 5);
        StreamTransport z = new StreamTransport(0, 0);
        Check.craft(z, 0, 0, 7);
        Check.due("closed by a wrong frame", z.close(0, 9), false);
        Check.due("its code", z.closed(0), 1);
    }

    /** "NONE when there is nothing to be sent, or no such end" */
    private static void sendRefused() {
        StreamTransport x = busy();
        x.send(0);
        x.send(1);
        String before = all(x);
        for (int end : NO_ENDS) {
            Check.due("send at end " + end, x.send(end), -1);
        }
        Check.due("nothing to be sent", x.send(0), -1);
        Check.due("nothing to be sent", x.send(1), -1);
        same("send", x, before);
    }

    /** "under way as the last one, or lost when 16 are: how many bytes it has; (lost or not its number is used up;)" */
    private static void sendWhen16AreUnderWay() {
        StreamTransport x = new StreamTransport(0, 0);
        Check.fill(x, 0, 0, 1);
        x.send(0);
        for (int i = 0; i < 14; i++) {
            x.copy(0);
        }
        Check.fill(x, 1, 0, 2);
        Check.due("the 16th", x.send(1), 9);
        Check.due("it is the last one", x.packet(15, -2), 1);
        Check.due("packets", x.packets(), 16);
        Check.fill(x, 1, 0, 1);
        String before = Check.way(x);
        Check.due("the 17th", x.send(1), 8);
        Check.due("is not under way", Check.way(x).equals(before), true);
        Check.due("its number is used up", x.about(1, 0), 2);
        Check.due("it is waited for", x.about(1, 1), 2);
        Check.due("its byte was sent", x.stream(1, 0, 1), 3);
        x.lose(0);
        Check.fill(x, 1, 0, 1);
        Check.due("there is room again", x.send(1), 8);
        Check.due("packets", x.packets(), 16);
        Check.bytes("the next number", x, 15, 2, 2, 0, 3, 2, 4);
    }

    /** "NONE when there is none" */
    private static void deliverRefused() {
        StreamTransport x = busy();
        int n = x.packets();
        String before = all(x);
        for (int k : new int[] {-1, n, n + 1, 16, LEAST, MOST}) {
            Check.due("deliver(" + k + ")", x.deliver(k), -1);
        }
        same("deliver", x, before);
        Check.due("the last", x.deliver(n - 1), 0);
        Check.due("under way no more", x.packets(), n - 1);
        Check.due("deliver(" + (n - 1) + ")", x.deliver(n - 1), -1);
        x = new StreamTransport(0, 0);
        Check.due("nothing under way", x.deliver(0), -1);
    }

    /** "2 that end is closed (and was before), ahead of the others; 0 it was processed" */
    private static void deliverClosedAhead() {
        StreamTransport x = new StreamTransport(0, 0);
        x.close(0, 7);
        x.send(0);
        x.copy(0);
        x.copy(0);
        x.spoil(2, 0, 16);
        Check.due("the packet that closes it was processed", x.deliver(0), 0);
        Check.due("closed", x.closed(1), 7);
        Check.due("it was closed before", x.deliver(0), 2);
        Check.due("ahead of dropped", x.deliver(0), 2);
        Check.due("under way no more", x.packets(), 0);
        StreamTransport y = new StreamTransport(0, 0);
        Check.due("a wrong frame is processed", Check.craft(y, 1, 0, 9), 0);
        Check.due("closed", y.closed(1), 1);
        Check.due("then 2", y.craft(1, 1), 2);
    }

    /** "false when there is none" */
    private static void loseRefused() {
        StreamTransport x = busy();
        int n = x.packets();
        String before = all(x);
        for (int k : new int[] {-1, n, 16, LEAST, MOST}) {
            Check.due("lose(" + k + ")", x.lose(k), false);
        }
        same("lose", x, before);
        Check.due("the last", x.lose(n - 1), true);
        Check.due("packets", x.packets(), n - 1);
        Check.due("the other is as it was", before.contains(Check.way(x).substring(4)), true);
    }

    /** "false when there is none" */
    private static void copyRefused() {
        StreamTransport x = busy();
        int n = x.packets();
        String before = all(x);
        for (int k : new int[] {-1, n, 16, LEAST, MOST}) {
            Check.due("copy(" + k + ")", x.copy(k), false);
        }
        same("copy", x, before);
        Check.due("the last", x.copy(n - 1), true);
        for (int i = -2; i < 40; i++) {
            Check.due("byte " + i, x.packet(n, i), x.packet(n - 1, i));
        }
    }

    /** "false when .. 16 are under way" */
    private static void copyWhen16AreUnderWay() {
        StreamTransport x = new StreamTransport(0, 0);
        Check.fill(x, 0, 0, 1);
        x.send(0);
        for (int i = 1; i < 16; i++) {
            Check.due("the " + (i + 1) + "th", x.copy(i - 1), true);
        }
        Check.due("a 17th", x.copy(0), false);
        Check.due("a 17th of the last", x.copy(15), false);
        Check.due("packets", x.packets(), 16);
        x.lose(3);
        Check.due("room again", x.copy(14), true);
        Check.due("packets", x.packets(), 16);
    }

    /** "bits (1 .. 255): true; false when there is none such" */
    private static void spoilRefused() {
        StreamTransport x = busy();
        int n = x.packets();
        int size = x.packet(0, -1);
        String before = all(x);
        for (int k : new int[] {-1, n, 16, LEAST, MOST}) {
            Check.due("packet " + k, x.spoil(k, 0, 1), false);
        }
        for (int place : new int[] {-1, size, 40, 41, LEAST, MOST}) {
            Check.due("place " + place, x.spoil(0, place, 1), false);
        }
        for (int bits : new int[] {0, -1, 256, 257, LEAST, MOST}) {
            Check.due("bits " + bits, x.spoil(0, 0, bits), false);
        }
        same("spoil", x, before);
    }

    /** "The byte at a place of packet k is joined by ^ with bits": the first, the last; 1 and 255. */
    private static void spoilEdges() {
        StreamTransport x = busy();
        int last = x.packet(0, -1) - 1;
        for (int place : new int[] {0, 1, last - 1, last}) {
            for (int bits : new int[] {1, 128, 255}) {
                int b = x.packet(0, place);
                Check.due("place " + place, x.spoil(0, place, bits), true);
                Check.due("bits " + bits, x.packet(0, place), b ^ bits);
                x.spoil(0, place, bits);
                Check.due("and back", x.packet(0, place), b);
            }
        }
        Check.due("how many it has", x.packet(0, -1), last + 1);
    }

    /** "The n (1 .. 8) lowest bytes of w, the lowest first, are put behind the RAW bytes: how many there are" */
    private static void rawCounts() {
        for (int n = 1; n <= 8; n++) {
            StreamTransport x = new StreamTransport(15, 31);
            Check.due("the head of a frame", x.raw(4, 0x02000000L * n + 2), 4);
            Check.due("raw " + n, x.raw(n, 0x8877665544332211L), 4 + n);
            Check.due("craft", x.craft(0, 0), 0);
            Check.due("not closed", x.closed(0), -1);
            Check.due("bytes", x.stream(0, 0, 6), n);
            for (int i = 1; i <= n; i++) {
                Check.due("byte", Check.read(x, 0, 0), 0x11 * i);
            }
        }
    }

    /** "NONE when n is not so, or there would be more than 37": a refused one puts nothing there. */
    private static void rawRefused() {
        for (int n = 1; n <= 8; n++) {
            StreamTransport x = new StreamTransport(0, 0);
            int count = 0;
            for (int i = 0; i < 37 - n; i++) {
                count = x.raw(1, 0);
            }
            Check.due("raw bytes", count, 37 - n);
            for (int wrong : new int[] {0, -1, 9, LEAST, MOST}) {
                Check.due("n " + wrong, x.raw(wrong, 7), -1);
            }
            if (n < 8) {
                Check.due("38", x.raw(n + 1, -1), -1);
            }
            Check.due("37", x.raw(n, 0), 37);
            Check.due("38", x.raw(1, 7), -1);
            Check.due("37 PINGs", x.craft(0, 0), 0);
            Check.due("not closed", x.closed(0), -1);
        }
    }

    /** "a packet of a number 0 .. 9999" */
    private static void craftNumbers() {
        StreamTransport x = busy();
        String before = all(x);
        for (int number : new int[] {-1, -16, 10000, 10001, LEAST, MOST}) {
            Check.due("number " + number, x.craft(1, number), -1);
        }
        same("craft", x, before);
        Check.due("9999 is one, too far off", x.craft(1, 9999), 1);
        Check.due("0 came before", x.craft(1, 0), 1);
        x = new StreamTransport(0, 0);
        Check.due("0", x.craft(1, 0), 0);
    }

    /** "NONE when there is no such end or number (the raw bytes stay)" */
    private static void craftRefused() {
        StreamTransport x = busy();
        String before = all(x);
        for (int end : NO_ENDS) {
            Check.due("end " + end, x.craft(end, 1), -1);
        }
        Check.due("number -1", x.craft(0, -1), -1);
        Check.due("number 10000", x.craft(0, 10000), -1);
        same("craft", x, before);
        Check.due("the raw bytes stay", x.raw(1, 0), 3);
        x.close(0, 0);
        Check.due("no number, ahead of closed", x.craft(0, -1), -1);
        Check.due("the raw bytes stay", x.raw(1, 0), 4);
    }

    /** "The raw bytes (there are none then)": processed, dropped, or at a closed end. */
    private static void craftUsesUpTheRawBytes() {
        StreamTransport x = new StreamTransport(0, 0);
        x.raw(3, 0);
        Check.due("processed", x.craft(0, 0), 0);
        Check.due("none", x.raw(4, 0), 4);
        Check.due("dropped", x.craft(0, 0), 1);
        Check.due("none", x.raw(5, 0), 5);
        x.close(0, 0);
        Check.due("closed", x.craft(0, 1), 2);
        Check.due("none", x.raw(6, 0), 6);
        Check.due("at the other end", x.craft(1, 1), 0);
        Check.due("none", x.raw(7, 0), 7);
    }

    /** "(Without raw bytes it has no frames, and is processed.)" */
    private static void craftWithoutRawBytes() {
        StreamTransport x = new StreamTransport(0, 0);
        for (int n = 0; n < 40; n++) {
            Check.due("craft " + n, x.craft(0, n), 0);
            Check.due("greatest", x.about(0, 4), n);
        }
        Check.due("not closed", x.closed(0), -1);
        Check.due("no ACK is due", x.send(0), -1);
        Check.due("nothing is under way", x.packets(), 0);
        Check.due("no number of the other end is used up", x.about(1, 0), 0);
    }

    /** "One tick: the time. (1 for the first one.)", "at most 512 calls" */
    private static void ticksFrom1To512() {
        StreamTransport x = new StreamTransport(0, 0);
        for (int t = 1; t <= 512; t++) {
            Check.due("tick", x.tick(), t);
        }
        StreamTransport y = new StreamTransport(0, 0);
        y.close(0, 0);
        y.close(1, 0);
        Check.due("also when both ends are closed", y.tick(), 1);
    }

    /** "How many packets are under way.": 0 to 16. */
    private static void packetsUpTo16() {
        StreamTransport x = new StreamTransport(0, 0);
        Check.due("none", x.packets(), 0);
        Check.fill(x, 0, 0, 1);
        x.send(0);
        for (int n = 1; n <= 16; n++) {
            Check.due("packets", x.packets(), n);
            x.copy(0);
        }
        Check.due("at most", x.packets(), 16);
        for (int n = 16; n > 0; n--) {
            Check.due("packets", x.packets(), n);
            x.lose(n - 1);
        }
        Check.due("none", x.packets(), 0);
    }

    /** "Byte i of packet k; with i = -1 how many it has, with i = -2 the end that sent it; NONE when there is none." */
    private static void packetEdges() {
        StreamTransport x = busy();
        int n = x.packets();
        for (int k = 0; k < n; k++) {
            int size = x.packet(k, -1);
            Check.due("sender", x.packet(k, -2), k);
            Check.due("the first byte", x.packet(k, 0), 0);
            Check.due("the last byte", x.packet(k, size - 1) >= 0, true);
            for (int i : new int[] {size, size + 1, 40, -3, -4, LEAST, MOST}) {
                Check.due("byte " + i, x.packet(k, i), -1);
            }
        }
        for (int k : new int[] {-1, n, 16, LEAST, MOST}) {
            for (int i = -2; i < 2; i++) {
                Check.due("packet " + k, x.packet(k, i), -1);
            }
        }
    }

    /** "NONE when it is not, or there is no such end" */
    private static void closedEdges() {
        StreamTransport x = new StreamTransport(0, 0);
        x.close(0, 0);
        Check.due("closed with 0", x.closed(0), 0);
        Check.due("not closed", x.closed(1), -1);
        for (int end : NO_ENDS) {
            Check.due("end " + end, x.closed(end), -1);
        }
    }

    /** "About an end: 0 .. 5 b; NONE for others." */
    private static void aboutEdges() {
        StreamTransport x = busy();
        for (int what = 0; what < 6; what++) {
            for (int end : NO_ENDS) {
                Check.due("end " + end, x.about(end, what), -1);
            }
        }
        for (int what : new int[] {-1, 6, 7, 8, LEAST, MOST}) {
            Check.due("what " + what, x.about(0, what), -1);
            Check.due("what " + what, x.about(1, what), -1);
        }
        int[][] want = {{1, 1, 8, 8, -1, 0}, {1, 1, 8, 8, 0, 0}};
        for (int end = 0; end < 2; end++) {
            for (int what = 0; what < 6; what++) {
                Check.due("about(" + end + ", " + what + ")", x.about(end, what), want[end][what]);
            }
        }
    }

    /** "About a stream: .. 0 .. 8 the limit that it gave; NONE for others." */
    private static void streamEdges() {
        StreamTransport x = busy();
        for (int what = 0; what < 9; what++) {
            for (int end : NO_ENDS) {
                Check.due("end " + end, x.stream(end, 0, what), -1);
            }
            for (int s : NO_STREAMS) {
                Check.due("stream " + s, x.stream(0, s, what), -1);
            }
        }
        for (int what : new int[] {-1, 9, 10, 11, LEAST, MOST}) {
            Check.due("what " + what, x.stream(0, 0, what), -1);
        }
        int[][] want = {{6, 4, 0, 4, 0, 0, 0, -1, 4}, {0, 0, 0, 4, 0, 0, 0, -1, 4}, {0, 0, 0, 4, 0, 1, 3, -1, 4},
            {0, 0, 0, 4, 0, 0, 0, 0, 4}};
        for (int what = 0; what < 9; what++) {
            Check.due("end 0, stream 0, " + what, x.stream(0, 0, what), want[0][what]);
            Check.due("end 0, stream 1, " + what, x.stream(0, 1, what), want[1][what]);
            Check.due("end 1, stream 0, " + what, x.stream(1, 0, what), want[2][what]);
            Check.due("end 1, stream 2, " + what, x.stream(1, 2, what), want[3][what]);
        }
    }

    /** "4 the greatest number processed (NONE without)" */
    private static void greatestProcessedOfNone() {
        StreamTransport x = new StreamTransport(0, 0);
        Check.due("none", x.about(0, 4), -1);
        x.craft(0, 0);
        Check.due("0", x.about(0, 4), 0);
        Check.due("none at the other end", x.about(1, 4), -1);
    }

    /** "4 1 when all bytes and the end (of one without bytes the end) .. are acked, else 0" */
    private static void streamWithoutBytesIsDoneByItsEnd() {
        StreamTransport x = new StreamTransport(0, 0);
        Check.due("without end", x.stream(0, 0, 4), 0);
        x.finish(0, 0);
        Check.due("not sent", x.stream(0, 0, 4), 0);
        x.send(0);
        Check.due("not acked", x.stream(0, 0, 4), 0);
        Check.craft(x, 0, 0, 1, 0, 0, 0);
        Check.due("acked", x.stream(0, 0, 4), 1);
        Check.due("not another one", x.stream(0, 1, 4), 0);
    }

    /** "all bytes and the end": neither alone is enough. */
    private static void streamIsDoneByAllBytesAndTheEnd() {
        StreamTransport x = new StreamTransport(0, 31);
        Check.fill(x, 0, 0, 4);
        x.send(0);
        Check.craft(x, 0, 0, 1, 0, 0, 0);
        Check.due("all bytes, no end", x.stream(0, 0, 4), 0);
        x.finish(0, 0);
        x.send(0);
        Check.craft(x, 0, 1, 1, 1, 0, 0);
        Check.due("and the end", x.stream(0, 0, 4), 1);
        x.reset(0, 0);
        Check.due("also when it is reset then", x.stream(0, 0, 4), 1);
        StreamTransport y = new StreamTransport(0, 31);
        Check.fill(y, 0, 0, 4);
        y.send(0);
        y.finish(0, 0);
        y.send(0);
        Check.craft(y, 0, 0, 1, 1, 0, 0);
        Check.due("the end, not the bytes", y.stream(0, 0, 4), 0);
        Check.craft(y, 0, 1, 1, 0, 0, 0);
        Check.due("the bytes, too", y.stream(0, 0, 4), 1);
    }

    /** "or its reset, are acked": whatever became of its bytes. */
    private static void streamIsDoneByItsReset() {
        StreamTransport x = new StreamTransport(0, 0);
        Check.fill(x, 0, 0, 6);
        x.send(0);
        x.reset(0, 0);
        Check.due("not sent", x.stream(0, 0, 4), 0);
        x.send(0);
        Check.due("not acked", x.stream(0, 0, 4), 0);
        Check.craft(x, 0, 0, 1, 1, 0, 0);
        Check.due("acked", x.stream(0, 0, 4), 1);
        Check.due("no byte is", x.stream(0, 0, 2), 0);
    }

    /** "6 how many can be read now (0 of a reset one)" */
    private static void readableOfAResetStream() {
        StreamTransport x = new StreamTransport(0, 0);
        Check.craft(x, 1, 0, 2, 0, 0, 6, 1, 2, 3);
        Check.drain(x, 1, 0, 1);
        Check.due("two", x.stream(1, 0, 6), 2);
        Check.craft(x, 1, 1, 5, 0, 3);
        Check.due("none", x.stream(1, 0, 6), 0);
        Check.due("read stays", x.stream(1, 0, 5), 1);
    }

    /** "7 its size (NONE when not known)" */
    private static void sizeThatIsNotKnown() {
        StreamTransport x = new StreamTransport(0, 0);
        Check.craft(x, 1, 0, 2, 0, 0, 2, 1);
        Check.due("not known", x.stream(1, 0, 7), -1);
        Check.craft(x, 1, 1, 2, 0, 1, 1, 2, 1, 0, 1, 5, 2, 0);
        Check.due("1", x.stream(1, 0, 7), 1);
        Check.due("0, by an end", x.stream(1, 1, 7), 0);
        Check.due("0, by a reset", x.stream(1, 2, 7), 0);
        Check.due("the writer's end does not read it", x.stream(0, 0, 7), -1);
    }
}
