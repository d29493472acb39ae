import java.util.NoSuchElementException;
import java.util.function.LongSupplier;

/** What the tests share: counting wrong answers, naming what a call throws, and building packets. */
final class Check {
    static final int ARGUMENT = -1001;
    static final int STATE = -1002;
    static final int UNSUPPORTED = -1003;
    static final int NO_ELEMENT = -1004;

    private static int wrong = 0;

    private Check() {
    }

    static void due(String what, long got, long want) {
        if (got != want) {
            wrong++;
            System.out.println(what + ": answered " + got + ", due is " + want);
        }
    }

    static void due(String what, boolean got, boolean want) {
        due(what, got ? 1 : 0, want ? 1 : 0);
    }

    /** The answer of a call, or a number below all answers that stands for what it throws. */
    static long answer(LongSupplier call) {
        try {
            return call.getAsLong();
        } catch (IllegalArgumentException e) {
            return ARGUMENT;
        } catch (IllegalStateException e) {
            return STATE;
        } catch (UnsupportedOperationException e) {
            return UNSUPPORTED;
        } catch (NoSuchElementException e) {
            return NO_ELEMENT;
        }
    }

    static long write(StreamTransport x, int end, int stream, int n, long w) {
        return answer(() -> x.write(end, stream, n, w));
    }

    static long read(StreamTransport x, int end, int stream) {
        return answer(() -> x.read(end, stream));
    }

    /** Writes n bytes, each its place + 1 (from 1 on), and says how many the stream has. */
    static int fill(StreamTransport x, int end, int stream, int n) {
        int at = x.stream(end, stream, 0);
        for (int left = n; left > 0; left -= 8) {
            int some = Math.min(8, left);
            long w = 0;
            for (int i = some; i > 0; i--) {
                w = w << 8 | (at + i);
            }
            at = x.write(end, stream, some, w);
        }
        return at;
    }

    /** Reads n bytes and looks that each is its place + 1. */
    static void drain(StreamTransport x, int end, int stream, int n) {
        for (int i = 0; i < n; i++) {
            int place = x.stream(end, stream, 5);
            due("byte " + place + " of stream " + stream, read(x, end, stream), place + 1);
        }
    }

    /** A packet with these bytes as its frames comes to an end. */
    static int craft(StreamTransport x, int end, int number, int... frames) {
        // As few calls as may be: an object has 512 of them.
        for (int at = 0; at < frames.length; at += 8) {
            int n = Math.min(8, frames.length - at);
            long w = 0;
            for (int i = n - 1; i >= 0; i--) {
                w = w << 8 | frames[at + i];
            }
            x.raw(n, w);
        }
        return x.craft(end, number);
    }

    /** The code with which a new object's end 1 is closed by a packet with these frames. */
    static int codeOf(int... frames) {
        StreamTransport x = new StreamTransport(0, 0);
        due("craft", craft(x, 1, 0, frames), 0);
        return x.closed(1);
    }

    /** Looks that packet k has these bytes before its seal. */
    static void bytes(String what, StreamTransport x, int k, int... want) {
        due(what + ", bytes of packet " + k, x.packet(k, -1), want.length + 2);
        for (int i = 0; i < want.length; i++) {
            due(what + ", packet(" + k + ", " + i + ")", x.packet(k, i), want[i]);
        }
    }

    /** Sends at an end, looks that the packet has these bytes before its seal, and takes it off the way. */
    static void sends(String what, StreamTransport x, int end, int... want) {
        due(what + ", send(" + end + ")", x.send(end), want.length + 2);
        bytes(what, x, x.packets() - 1, want);
        x.lose(x.packets() - 1);
    }

    /** Sends at an end and delivers what was sent. */
    static void passes(String what, StreamTransport x, int end) {
        due(what + ", is there a packet", x.send(end) != StreamTransport.NONE, true);
        due(what + ", deliver", x.deliver(x.packets() - 1), 0);
    }

    static void ticks(StreamTransport x, int n) {
        for (int i = 0; i < n; i++) {
            x.tick();
        }
    }

    /** All that can be asked about an end. */
    static String state(StreamTransport x, int end) {
        StringBuilder text = new StringBuilder("closed ").append(x.closed(end)).append(" about");
        for (int what = 0; what < 6; what++) {
            text.append(' ').append(x.about(end, what));
        }
        for (int s = 0; s < 4; s++) {
            text.append(" stream");
            for (int what = 0; what < 9; what++) {
                text.append(' ').append(x.stream(end, s, what));
            }
        }
        return text.toString();
    }

    /** All that can be asked about the packets that are under way. */
    static String way(StreamTransport x) {
        StringBuilder text = new StringBuilder("way");
        int packets = x.packets();
        for (int k = 0; k < packets; k++) {
            text.append(" from ").append(x.packet(k, -2)).append(':');
            int size = x.packet(k, -1);
            for (int i = 0; i < size; i++) {
                text.append(' ').append(x.packet(k, i));
            }
        }
        return text.toString();
    }

    /** To be called last: ends the test with exit code 1 when an answer was wrong. */
    static void done() {
        if (wrong != 0) {
            System.out.println(wrong + " answers are not as due");
            System.exit(1);
        }
        System.out.println("all answers are as due");
    }
}
