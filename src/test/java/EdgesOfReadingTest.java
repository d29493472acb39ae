import java.util.Arrays;

/** The edges that the paragraph on READING and THE LIMIT names. */
final class EdgesOfReadingTest {
    public static void main(String[] args) {
        asFarAsAllBeforeCame();
        limitsAtFirst();
        dueByHalfAStreamWindow();
        dueAgainByHalfAStreamWindow();
        dueBecauseItIs64();
        atMost64();
        dueWhetherTheSizeIsKnownOrNot();
        dueStaysWhenItIsReset();
        notDueWhenItIsReset();
        dueByHalfAWindowForAll();
        dueAgainByHalfAWindowForAll();
        resetStreamCountsWithItsSize();
        resetStreamCountsOnce();
        finishedStreamCountsWithWhatWasRead();
        dueForAllBecauseItIs256();
        givenIsWhatTheFrameSays();
        givenWhenItIsSent();
        refusedReadChangesNothing();
        Check.done();
    }

    /** The frame STREAM with n bytes from a place on, each its place + 1. */
    private static int[] data(int stream, int place, int n) {
        int[] frame = new int[4 + n];
        frame[0] = 2;
        frame[1] = stream;
        frame[2] = place;
        frame[3] = 2 * n;
        for (int i = 0; i < n; i++) {
            frame[4 + i] = place + i + 1;
        }
        return frame;
    }

    /** "READING gives the bytes of a stream in order, as far as all before came." */
    private static void asFarAsAllBeforeCame() {
        StreamTransport x = new StreamTransport(0, 0);
        Check.due("nothing came", Check.read(x, 1, 0), Check.NO_ELEMENT);
        Check.craft(x, 1, 0, data(0, 3, 1));
        Check.craft(x, 1, 1, data(0, 1, 1));
        Check.due("can be read", x.stream(1, 0, 6), 0);
        Check.due("the first has not come", Check.read(x, 1, 0), Check.NO_ELEMENT);
        Check.craft(x, 1, 2, data(0, 0, 1));
        Check.due("can be read", x.stream(1, 0, 6), 2);
        Check.drain(x, 1, 0, 2);
        Check.due("the third has not come", Check.read(x, 1, 0), Check.NO_ELEMENT);
        Check.craft(x, 1, 3, data(0, 2, 1));
        Check.drain(x, 1, 0, 2);
        Check.due("nothing more came", Check.read(x, 1, 0), Check.NO_ELEMENT);
    }

    /** "THE LIMIT that an end gives for a stream is SW at first, that for all CW." */
    private static void limitsAtFirst() {
        StreamTransport x = new StreamTransport(3, 5);
        for (int end = 0; end < 2; end++) {
            Check.due("for all", x.about(end, 3), 13);
            Check.due("for all, of the other end", x.about(end, 2), 13);
            for (int s = 0; s < 4; s++) {
                Check.due("for a stream", x.stream(end, s, 8), 7);
                Check.due("for a stream, of the other end", x.stream(end, s, 3), 7);
            }
            Check.due("nothing is due", x.send(end), -1);
        }
    }

    /** "DUE when it is above what was given, by SW / 2 (cut off) or more": each SW from 4 to 19. */
    private static void dueByHalfAStreamWindow() {
        for (int sw = 4; sw <= 19; sw++) {
            StreamTransport x = new StreamTransport(sw - 4, 31);
            Check.craft(x, 1, 0, data(2, 0, sw));
            x.send(1);
            x.lose(0);
            Check.drain(x, 1, 2, sw / 2 - 1);
            Check.due("SW " + sw + ", one less than half", x.send(1), -1);
            Check.drain(x, 1, 2, 1);
            Check.sends("SW " + sw + ", half", x, 1, 1, 4, 2, sw + sw / 2);
            Check.due("given", x.stream(1, 2, 8), sw + sw / 2);
            Check.due("once", x.send(1), -1);
        }
    }

    /** "above what was given": the next one is counted from what was given, not from what was read. */
    private static void dueAgainByHalfAStreamWindow() {
        StreamTransport x = new StreamTransport(1, 31);
        Check.craft(x, 1, 0, data(0, 0, 5));
        x.send(1);
        x.lose(0);
        Check.drain(x, 1, 0, 3);
        Check.sends("3 read: 8", x, 1, 1, 4, 0, 8);
        Check.drain(x, 1, 0, 1);
        Check.due("4 read: 9 is above 8 by one", x.send(1), -1);
        Check.drain(x, 1, 0, 1);
        Check.sends("5 read: 10", x, 1, 2, 4, 0, 10);
    }

    /** Bytes of a stream come to end 1 and are read, up to a place, by so many; all that end 1 sends is lost. */
    private static int readBy(StreamTransport x, int stream, int step, int place, int number) {
        int next = number;
        for (int at = 0; at < place; at += step) {
            int n = Math.min(step, place - at);
            Check.due("craft", Check.craft(x, 1, next, data(stream, at, n)), 0);
            next++;
            for (int i = 1; i <= n; i++) {
                Check.due("byte", Check.read(x, 1, stream), at + i);
            }
            x.send(1);
            x.lose(0);
        }
        return next;
    }

    /** "or because it is 64": by less than SW / 2, too. */
    private static void dueBecauseItIs64() {
        StreamTransport x = new StreamTransport(15, 31);
        int number = readBy(x, 0, 11, 44, 0);
        Check.due("given", x.stream(1, 0, 8), 63);
        Check.craft(x, 1, number, data(0, 44, 1));
        Check.due("an ACK", x.send(1), 7);
        x.lose(0);
        Check.drain(x, 1, 0, 1);
        Check.sends("64 is above 63 by one", x, 1, x.about(1, 0), 4, 0, 64, 64);
    }

    /** "t + SW, but at most 64": and 64 is above what was given but once. */
    private static void atMost64() {
        StreamTransport x = new StreamTransport(15, 31);
        int number = readBy(x, 0, 11, 44, 0);
        Check.craft(x, 1, number, data(0, 44, 12));
        Check.craft(x, 1, number + 1, data(0, 56, 7));
        Check.drain(x, 1, 0, 19);
        x.send(1);
        x.lose(0);
        Check.due("63 + 19 is 64", x.stream(1, 0, 8), 64);
        Check.craft(x, 1, number + 2, data(0, 63, 1));
        x.send(1);
        x.lose(0);
        Check.drain(x, 1, 0, 1);
        Check.due("64 read", x.stream(1, 0, 5), 64);
        Check.due("nothing is due", x.send(1), -1);
        Check.craft(x, 1, number + 3, 2, 0, 64, 64, 1);
        Check.due("an end at 64 is right", x.closed(1), -1);
        Check.due("it is the end", Check.read(x, 1, 0), Check.UNSUPPORTED);
        Check.craft(x, 1, number + 4, 2, 0, 64, 65, 0);
        Check.due("65 is beyond the limit", x.closed(1), 3);
    }

    /** "(whether the stream's size is known or not" */
    private static void dueWhetherTheSizeIsKnownOrNot() {
        for (int end = 0; end < 2; end++) {
            StreamTransport x = new StreamTransport(0, 31);
            Check.craft(x, 1, 0, 2, 0, 0, 4 + end, 1, 2);
            Check.due("size", x.stream(1, 0, 7), end == 1 ? 2 : -1);
            x.send(1);
            x.lose(0);
            Check.drain(x, 1, 0, 2);
            Check.sends("a limit", x, 1, 1, 4, 0, 6);
        }
    }

    /** "what is due stays so when it is reset)" */
    private static void dueStaysWhenItIsReset() {
        StreamTransport x = new StreamTransport(0, 31);
        Check.craft(x, 1, 0, data(3, 0, 3));
        Check.drain(x, 1, 3, 2);
        Check.craft(x, 1, 1, 5, 3, 4);
        Check.sends("ACK and the limit of what was read", x, 1, 0, 1, 1, 1, 0, 4, 3, 6);
        Check.due("given", x.stream(1, 3, 8), 6);
    }

    /** The same: what was not due is not due by a reset. */
    private static void notDueWhenItIsReset() {
        StreamTransport x = new StreamTransport(0, 31);
        Check.craft(x, 1, 0, data(3, 0, 3));
        Check.drain(x, 1, 3, 1);
        Check.craft(x, 1, 1, 5, 3, 4);
        Check.sends("ACK alone", x, 1, 0, 1, 1, 1, 0);
    }

    /** So many bytes come to end 1 over streams 0 to 2, at most 7 each, so that no limit of a stream is due. */
    private static void spread(StreamTransport x, int number, int n) {
        int[] frames = new int[0];
        for (int s = 0; s < 3; s++) {
            int[] more = data(s, 0, Math.min(7, Math.max(0, n - 7 * s)));
            int at = frames.length;
            frames = Arrays.copyOf(frames, at + more.length);
            System.arraycopy(more, 0, frames, at, more.length);
        }
        Check.craft(x, 1, number, frames);
    }

    /** "u + CW .. DUE likewise, with CW / 2": each CW from 8 to 39. */
    private static void dueByHalfAWindowForAll() {
        for (int cw = 8; cw <= 39; cw++) {
            StreamTransport x = new StreamTransport(15, cw - 8);
            spread(x, 0, cw / 2);
            x.send(1);
            x.lose(0);
            for (int i = 0; i < cw / 2 - 1; i++) {
                Check.drain(x, 1, i / 7, 1);
            }
            Check.due("CW " + cw + ", one less than half", x.send(1), -1);
            Check.drain(x, 1, (cw / 2 - 1) / 7, 1);
            int limit = cw + cw / 2;
            Check.due("CW " + cw + ", half", x.send(1), 5);
            Check.bytes("CW " + cw + ", half", x, 0, 1, 3, limit);
            Check.due("given", x.about(1, 3), limit);
            Check.due("once", x.send(1), -1);
        }
    }

    /** "above what was given": the next one is counted from what was given. */
    private static void dueAgainByHalfAWindowForAll() {
        StreamTransport x = new StreamTransport(15, 0);
        Check.craft(x, 1, 0, data(0, 0, 8));
        x.send(1);
        x.lose(0);
        Check.drain(x, 1, 0, 5);
        Check.sends("5 read: 13", x, 1, 1, 3, 13);
        Check.drain(x, 1, 0, 3);
        Check.due("8 read: 16 is above 13 by three", x.send(1), -1);
        Check.craft(x, 1, 1, data(1, 0, 1));
        Check.drain(x, 1, 1, 1);
        Check.sends("9 read: 17", x, 1, 2, 1, 1, 1, 0, 3, 17);
    }

    /** "(a stream that is reset counts with its size)", "this is looked at also when a reset is taken" */
    private static void resetStreamCountsWithItsSize() {
        for (int cw = 8; cw <= 39; cw++) {
            for (int less = 0; less < 2; less++) {
                StreamTransport x = new StreamTransport(15, cw - 8);
                int size = cw / 2 - less;
                Check.craft(x, 1, 0, 5, 1, size);
                if (less == 1) {
                    Check.sends("one less than half", x, 1, 0, 1, 0, 0, 0);
                } else {
                    Check.sends("half", x, 1, 0, 1, 0, 0, 0, 3, cw + size);
                }
            }
        }
    }

    /** "counts with its size": not with what was read besides, and not again with each RESET. */
    private static void resetStreamCountsOnce() {
        StreamTransport x = new StreamTransport(15, 0);
        Check.craft(x, 1, 0, data(0, 0, 3));
        Check.drain(x, 1, 0, 3);
        Check.craft(x, 1, 1, 5, 0, 3);
        Check.craft(x, 1, 2, 5, 0, 3);
        Check.sends("3 in all", x, 1, 0, 1, 2, 2, 0);
        Check.craft(x, 1, 3, 5, 1, 1);
        Check.sends("4 in all", x, 1, 1, 1, 3, 3, 0, 3, 12);
    }

    /** "With u the bytes read of all streams": a size that an end says counts for nothing. */
    private static void finishedStreamCountsWithWhatWasRead() {
        StreamTransport x = new StreamTransport(15, 0);
        Check.craft(x, 1, 0, 2, 0, 4, 1, 2, 1, 4, 1);
        Check.sends("ACK alone", x, 1, 0, 1, 0, 0, 0);
        Check.craft(x, 1, 1, data(0, 0, 4));
        Check.drain(x, 1, 0, 3);
        Check.sends("3 are too few", x, 1, 1, 1, 1, 1, 0);
        Check.drain(x, 1, 0, 1);
        Check.sends("4 are not", x, 1, 2, 3, 12);
    }

    /** "but at most 256, DUE likewise, with .. 256": by less than CW / 2; 256 is above what was given but once. */
    private static void dueForAllBecauseItIs256() {
        StreamTransport x = new StreamTransport(15, 31);
        int number = 0;
        for (int s = 0; s < 3; s++) {
            number = readBy(x, s, 12, 45, number);
            Check.craft(x, 1, number++, 5, s, 64, 64);
            x.send(1);
            x.lose(0);
        }
        number = readBy(x, 3, 12, 24, number);
        Check.due("216 and 39", x.about(1, 3), 255);
        Check.craft(x, 1, number, data(3, 24, 12));
        Check.due("ACK alone", x.send(1), 7);
        x.lose(0);
        Check.drain(x, 1, 3, 1);
        Check.sends("256 is above 255 by one", x, 1, x.about(1, 0) % 16, 3, 65, 0);
        Check.due("given", x.about(1, 3), 256);
        Check.drain(x, 1, 3, 2);
        Check.due("nothing is due", x.send(1), -1);
        Check.craft(x, 1, number + 1, 5, 3, 43);
        Check.sends("nor when a reset is taken", x, 1, x.about(1, 0) % 16, 1, number + 1, number + 1, 0);
        Check.due("at most 256", x.about(1, 3), 256);
    }

    /** "What is given is what the frame says": what was read between due and sent is in it. */
    private static void givenIsWhatTheFrameSays() {
        StreamTransport x = new StreamTransport(0, 0);
        Check.craft(x, 1, 0, data(0, 0, 4));
        Check.drain(x, 1, 0, 2);
        Check.due("for the stream, before", x.stream(1, 0, 8), 4);
        Check.drain(x, 1, 0, 2);
        Check.due("for all, before", x.about(1, 3), 8);
        Check.sends("both", x, 1, 0, 1, 0, 0, 0, 3, 12, 4, 0, 8);
        Check.due("for the stream", x.stream(1, 0, 8), 8);
        Check.due("for all", x.about(1, 3), 12);
        Check.due("the other end has not got it", x.stream(0, 0, 3), 4);
    }

    /** "when it is sent": not when it was made due, and also when 16 are under way, so that it is lost. */
    private static void givenWhenItIsSent() {
        StreamTransport x = new StreamTransport(0, 0);
        Check.fill(x, 0, 1, 1);
        x.send(0);
        for (int i = 0; i < 15; i++) {
            x.copy(0);
        }
        Check.craft(x, 1, 1, data(0, 0, 4));
        Check.drain(x, 1, 0, 4);
        Check.due("it is lost", x.send(1), 12);
        Check.due("for the stream", x.stream(1, 0, 8), 8);
        Check.due("for all", x.about(1, 3), 12);
        Check.craft(x, 1, 2, data(0, 4, 4));
        Check.due("8 are right then", x.closed(1), -1);
    }

    /** A read that throws reads nothing, and makes nothing due. */
    private static void refusedReadChangesNothing() {
        StreamTransport x = new StreamTransport(0, 31);
        Check.craft(x, 1, 0, data(0, 0, 1));
        Check.craft(x, 1, 1, 2, 1, 0, 3, 1);
        x.send(1);
        Check.drain(x, 1, 0, 1);
        Check.drain(x, 1, 1, 1);
        String before = Check.state(x, 1);
        for (int i = 0; i < 3; i++) {
            Check.due("has not come", Check.read(x, 1, 0), Check.NO_ELEMENT);
            Check.due("the end", Check.read(x, 1, 1), Check.UNSUPPORTED);
        }
        Check.due("nothing changed", Check.state(x, 1).equals(before), true);
        Check.due("nothing is due", x.send(1), -1);
    }
}
