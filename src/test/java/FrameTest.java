/** Promise 8 by the Terms: numbers in the code, frames, and the codes of wrong ones. */
final class FrameTest {
    public static void main(String[] args) {
        rightFrames();
        noFrames();
        numbersInTheCode();
        wrongStreams();
        beyondTheLimit();
        beyondTheLimitForAll();
        wrongSizes();
        leastCodeThatFits();
        acksOfWhatWasNotSent();
        whatCameBeforeHolds();
        limitsThatCome();
        resetStreams();
        acksThatAreDue();
        Check.done();
    }

    private static void rightFrames() {
        Check.due("nothing", Check.codeOf(), -1);
        Check.due("ping", Check.codeOf(0), -1);
        Check.due("pings", Check.codeOf(0, 0, 0, 0), -1);
        Check.due("stream without bytes and end", Check.codeOf(2, 3, 0, 0), -1);
        Check.due("stream", Check.codeOf(2, 0, 0, 8, 1, 2, 3, 4), -1);
        Check.due("limit for all", Check.codeOf(3, 0), -1);
        Check.due("limit", Check.codeOf(4, 3, 0), -1);
        Check.due("reset", Check.codeOf(5, 3, 4), -1);
    }

    private static void noFrames() {
        Check.due("7", Check.codeOf(7), 1);
        Check.due("255", Check.codeOf(255), 1);
        Check.due("64, 0 is no ping", Check.codeOf(64, 0), 1);
        int[][] whole = {{1, 0, 0, 0}, {1, 0, 0, 2, 0, 0, 0, 0}, {2, 0, 0, 4, 1, 2}, {3, 1}, {4, 0, 1}, {5, 0, 1}, {6, 1}};
        for (int[] frame : whole) {
            for (int n = 1; n < frame.length; n++) {
                int[] part = java.util.Arrays.copyOf(frame, n);
                Check.due(n + " bytes of frame " + frame[0], Check.codeOf(part), 1);
            }
        }
        Check.due("r above 2", Check.codeOf(1, 0, 0, 3, 0, 0, 0, 0, 0, 0), 1);
        Check.due("a number begins with 192", Check.codeOf(3, 192, 0, 0, 0), 1);
        Check.due("a number begins with 255", Check.codeOf(6, 255, 0, 0, 0), 1);
        Check.due("two bytes, one missing", Check.codeOf(3, 64), 1);
        Check.due("four bytes, one missing", Check.codeOf(3, 128, 0, 0), 1);
        Check.due("the second byte of two is missing", Check.codeOf(3, 65), 1);
        Check.due("the last byte of four is missing", Check.codeOf(3, 129, 2, 3), 1);
        Check.due("the last byte of a second number is missing", Check.codeOf(4, 0, 129, 2, 3), 1);
        Check.due("far too few bytes", Check.codeOf(2, 0, 0, 191, 255, 255, 255, 1), 1);
        Check.due("behind a right one", Check.codeOf(0, 9), 1);
    }

    private static void numbersInTheCode() {
        StreamTransport x = new StreamTransport(0, 0);
        int[][] limits = {{3, 63, 63}, {3, 64, 64, 64}, {3, 127, 255, 16383}, {3, 128, 0, 64, 0, 16384},
            {3, 129, 2, 3, 4, 0x01020304}, {3, 191, 255, 255, 255, (1 << 30) - 1}};
        for (int i = 0; i < limits.length; i++) {
            int[] frame = java.util.Arrays.copyOf(limits[i], limits[i].length - 1);
            Check.due("craft", Check.craft(x, 0, i, frame), 0);
            Check.due("limit for all", x.about(0, 2), limits[i][limits[i].length - 1]);
        }
        StreamTransport y = new StreamTransport(0, 0);
        Check.craft(y, 0, 0, 4, 64, 1, 128, 0, 0, 9);
        Check.due("numbers in more bytes than they need", y.stream(0, 1, 3), 9);
        Check.craft(y, 0, 1, 2, 64, 0, 128, 0, 0, 1, 64, 4, 7, 8);
        Check.craft(y, 0, 2, 2, 0, 0, 2, 6);
        Check.due("came", y.stream(0, 0, 6), 3);
        Check.due("not closed", y.closed(0), -1);
        Check.craft(y, 0, 3, 4, 2, 191, 255, 255, 255);
        Check.due("limit", y.stream(0, 2, 3), (1 << 30) - 1);
    }

    private static void wrongStreams() {
        Check.due("stream 4", Check.codeOf(2, 4, 0, 0), 2);
        Check.due("limit 4", Check.codeOf(4, 4, 9), 2);
        Check.due("reset 4", Check.codeOf(5, 4, 0), 2);
        Check.due("a great one", Check.codeOf(2, 191, 255, 255, 255, 0, 0), 2);
    }

    private static void beyondTheLimit() {
        Check.due("to the limit", Check.codeOf(2, 0, 3, 2, 9), -1);
        Check.due("beyond it", Check.codeOf(2, 0, 3, 4, 9, 9), 3);
        Check.due("without bytes, to the limit", Check.codeOf(2, 0, 4, 0), -1);
        Check.due("without bytes, beyond it", Check.codeOf(2, 0, 5, 0), 3);
        Check.due("an end beyond it", Check.codeOf(2, 0, 5, 1), 3);
        Check.due("reset to it", Check.codeOf(5, 0, 4), -1);
        Check.due("reset beyond it", Check.codeOf(5, 0, 5), 3);
        Check.due("far beyond it", Check.codeOf(2, 0, 191, 255, 255, 255, 3, 1), 3);
        StreamTransport x = new StreamTransport(0, 31);
        Check.craft(x, 1, 0, 2, 0, 0, 8, 1, 2, 3, 4);
        Check.drain(x, 1, 0, 2);
        Check.craft(x, 1, 1, 2, 0, 4, 2, 5);
        Check.due("a limit that is due was not given yet", x.closed(1), 3);
        StreamTransport y = new StreamTransport(0, 31);
        Check.craft(y, 1, 0, 2, 0, 0, 8, 1, 2, 3, 4);
        Check.drain(y, 1, 0, 2);
        y.send(1);
        Check.craft(y, 1, 1, 2, 0, 4, 4, 5, 6);
        Check.due("given, lost or not", y.closed(1), -1);
        Check.craft(y, 1, 2, 2, 0, 6, 2, 7);
        Check.due("beyond what was given", y.closed(1), 3);
    }

    private static void beyondTheLimitForAll() {
        StreamTransport x = new StreamTransport(15, 0);
        Check.craft(x, 1, 0, 2, 0, 4, 2, 9);
        Check.craft(x, 1, 1, 5, 1, 2);
        Check.craft(x, 1, 2, 2, 2, 1, 0);
        Check.due("5 + 2 + 1", x.closed(1), -1);
        Check.craft(x, 1, 3, 2, 0, 0, 8, 1, 2, 3, 4);
        Check.due("below how far it was reached", x.closed(1), -1);
        Check.craft(x, 1, 4, 2, 3, 1, 0);
        Check.due("5 + 2 + 1 + 1", x.closed(1), 3);
        StreamTransport y = new StreamTransport(15, 0);
        Check.craft(y, 1, 0, 2, 0, 0, 8, 1, 1, 1, 1, 2, 1, 0, 8, 1, 1, 1, 1, 5, 2, 1);
        Check.due("a reset beyond it", y.closed(1), 3);
        Check.due("what came before holds", y.stream(1, 1, 6), 4);
        Check.due("the reset was not taken", y.stream(1, 2, 7), -1);
    }

    private static int codeBehind(int[] first, int[] second) {
        StreamTransport x = new StreamTransport(4, 31);
        Check.due("first", Check.craft(x, 1, 0, first), 0);
        Check.due("first is right", x.closed(1), -1);
        Check.due("second", Check.craft(x, 1, 1, second), 0);
        return x.closed(1);
    }

    private static void wrongSizes() {
        int[] three = {2, 0, 0, 6, 1, 2, 3};
        int[] threeAndEnd = {2, 0, 0, 7, 1, 2, 3};
        int[] resetOf3 = {5, 0, 3};
        int[] emptyAt3 = {2, 0, 3, 0};
        Check.due("end below", codeBehind(three, new int[] {2, 0, 2, 1}), 4);
        Check.due("end at", codeBehind(three, new int[] {2, 0, 3, 1}), -1);
        Check.due("end above", codeBehind(three, new int[] {2, 0, 5, 1}), -1);
        Check.due("reset below", codeBehind(three, new int[] {5, 0, 2}), 4);
        Check.due("reset at", codeBehind(three, new int[] {5, 0, 3}), -1);
        Check.due("reset above", codeBehind(three, new int[] {5, 0, 4}), -1);
        Check.due("a frame without bytes reaches, too", codeBehind(emptyAt3, new int[] {2, 0, 2, 1}), 4);
        for (int[] first : new int[][] {threeAndEnd, resetOf3}) {
            Check.due("the same end", codeBehind(first, new int[] {2, 0, 3, 1}), -1);
            Check.due("another end below", codeBehind(first, new int[] {2, 0, 2, 1}), 4);
            Check.due("another end above", codeBehind(first, new int[] {2, 0, 4, 1}), 4);
            Check.due("the same reset", codeBehind(first, new int[] {5, 0, 3}), -1);
            Check.due("another reset below", codeBehind(first, new int[] {5, 0, 2}), 4);
            Check.due("another reset above", codeBehind(first, new int[] {5, 0, 4}), 4);
            Check.due("bytes up to it", codeBehind(first, new int[] {2, 0, 1, 4, 2, 3}), -1);
            Check.due("bytes beyond it", codeBehind(first, new int[] {2, 0, 3, 2, 4}), 4);
            Check.due("no bytes beyond it", codeBehind(first, new int[] {2, 0, 4, 0}), 4);
            Check.due("another stream", codeBehind(first, new int[] {2, 1, 4, 1}), -1);
        }
    }

    private static void leastCodeThatFits() {
        int[] threeAndEnd = {2, 0, 0, 7, 1, 2, 3};
        Check.due("no stream and bytes missing", Check.codeOf(2, 4, 0, 2), 1);
        Check.due("beyond the limit and bytes missing", Check.codeOf(2, 0, 50, 2), 1);
        Check.due("no stream and beyond all limits", Check.codeOf(5, 9, 63), 2);
        Check.due("beyond the limit and the size", codeBehind(threeAndEnd, new int[] {2, 0, 9, 1}), 3);
        Check.due("a reset likewise", codeBehind(threeAndEnd, new int[] {5, 0, 9}), 3);
        Check.due("never sent and numbers missing", Check.codeOf(1, 9, 0, 1, 0), 1);
        Check.due("never sent and r above 2", Check.codeOf(1, 9, 0, 3), 1);
    }

    private static int codeOfAck(int... frame) {
        StreamTransport x = new StreamTransport(15, 31);
        for (int i = 0; i < 10; i++) {
            Check.fill(x, 0, 0, 1);
            x.send(0);
        }
        Check.due("craft", Check.craft(x, 0, 0, frame), 0);
        return x.closed(0);
    }

    private static void acksOfWhatWasNotSent() {
        Check.due("nothing was sent", Check.codeOf(1, 0, 0, 0), 5);
        Check.due("the latest", codeOfAck(1, 9, 0, 0), -1);
        Check.due("never sent", codeOfAck(1, 10, 0, 0), 5);
        Check.due("far above", codeOfAck(1, 191, 255, 255, 255, 0, 0), 5);
        Check.due("all", codeOfAck(1, 9, 9, 0), -1);
        Check.due("below 0", codeOfAck(1, 9, 10, 0), 5);
        Check.due("a range at 0", codeOfAck(1, 9, 1, 1, 5, 1), -1);
        Check.due("a range below 0", codeOfAck(1, 9, 1, 1, 5, 2), 5);
        Check.due("a range that begins below 0", codeOfAck(1, 9, 1, 1, 7, 0), 5);
        Check.due("a range below one that ends at 0", codeOfAck(1, 9, 9, 1, 0, 0), 5);
        Check.due("the second range at 0", codeOfAck(1, 9, 1, 2, 0, 0, 3, 1), -1);
        Check.due("the second range below 0", codeOfAck(1, 9, 1, 2, 0, 0, 3, 2), 5);
        int[] far = {1, 9, 0, 2, 191, 255, 255, 255, 191, 255, 255, 255, 191, 255, 255, 255, 191, 255, 255, 255};
        Check.due("so far below that sums run over", codeOfAck(far), 5);
    }

    private static void whatCameBeforeHolds() {
        StreamTransport x = new StreamTransport(0, 0);
        Check.craft(x, 1, 0, 2, 0, 0, 4, 1, 2, 4, 1, 20, 3, 30, 7, 2, 0, 2, 2, 3);
        Check.due("closed", x.closed(1), 1);
        Check.due("stream", x.stream(1, 0, 6), 2);
        Check.due("limit", x.stream(1, 1, 3), 20);
        Check.due("limit for all", x.about(1, 2), 30);
        Check.due("the packet was processed", x.about(1, 4), 0);
    }

    private static void limitsThatCome() {
        StreamTransport x = new StreamTransport(0, 0);
        Check.craft(x, 0, 0, 3, 20, 4, 2, 10);
        Check.craft(x, 0, 1, 3, 19, 4, 2, 9);
        Check.due("limit for all", x.about(0, 2), 20);
        Check.due("limit", x.stream(0, 2, 3), 10);
        Check.due("another stream", x.stream(0, 1, 3), 4);
        Check.due("the other end", x.stream(1, 2, 3), 4);
        Check.due("what the end itself gave", x.stream(0, 2, 8), 4);
        Check.due("what the end itself gave for all", x.about(0, 3), 8);
    }

    private static void resetStreams() {
        StreamTransport x = new StreamTransport(4, 8);
        Check.craft(x, 0, 0, 5, 0, 3);
        Check.craft(x, 0, 1, 2, 0, 0, 6, 1, 2, 3);
        Check.due("bytes are passed over", x.stream(0, 0, 6), 0);
        Check.due("size", x.stream(0, 0, 7), 3);
        Check.due("not closed", x.closed(0), -1);
        Check.due("read", Check.read(x, 0, 0), Check.STATE);
    }

    private static void acksThatAreDue() {
        int[][] frames = {{0}, {2, 0, 0, 0}, {3, 1}, {4, 0, 1}, {5, 0, 0}};
        for (int[] frame : frames) {
            StreamTransport x = new StreamTransport(0, 0);
            Check.craft(x, 0, 0, frame);
            Check.due("ack of frame " + frame[0], x.send(0), 7);
        }
        StreamTransport x = new StreamTransport(0, 0);
        Check.fill(x, 0, 0, 1);
        x.send(0);
        Check.craft(x, 0, 0, 1, 0, 0, 0);
        Check.due("no ack of acks", x.send(0), -1);
    }
}
