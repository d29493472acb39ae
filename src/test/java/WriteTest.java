/** Promise 2. */
final class WriteTest {
    public static void main(String[] args) {
        lowestBytesFirst();
        wrongArguments();
        wrongStates();
        Check.done();
    }

    private static void lowestBytesFirst() {
        StreamTransport x = new StreamTransport(15, 31);
        Check.due("3 bytes", Check.write(x, 1, 3, 3, 0xFF8001020304L), 3);
        Check.due("8 bytes", Check.write(x, 1, 3, 8, 0x8877665544332211L), 11);
        Check.due("1 byte", Check.write(x, 1, 3, 1, -1L), 12);
        Check.due("another stream", Check.write(x, 1, 0, 1, 0), 1);
        Check.due("the same stream of the other end", x.stream(0, 3, 0), 0);
        Check.sends("what was written", x, 1, 0, 2, 0, 0, 2, 0,
            2, 3, 0, 24, 4, 3, 2, 0x11, 0x22, 0x33, 0x44, 0x55, 0x66, 0x77, 0x88, 255);
    }

    private static void wrongArguments() {
        StreamTransport x = new StreamTransport(0, 0);
        int[][] wrong = {{-1, 0, 1}, {2, 0, 1}, {0, -1, 1}, {0, 4, 1}, {0, 0, 0}, {0, 0, 9}, {0, 0, -1},
            {Integer.MAX_VALUE, 0, 1}, {0, Integer.MIN_VALUE, 1}, {0, 0, Integer.MAX_VALUE}};
        for (int[] w : wrong) {
            Check.due("write(" + w[0] + ", " + w[1] + ", " + w[2] + ")", Check.write(x, w[0], w[1], w[2], 7), Check.ARGUMENT);
        }
        Check.due("nothing was written", x.stream(0, 0, 0), 0);
        x.finish(0, 0);
        x.close(0, 1);
        Check.due("a wrong argument goes ahead of a wrong state", Check.write(x, 0, 0, 9, 7), Check.ARGUMENT);
    }

    private static void wrongStates() {
        StreamTransport x = new StreamTransport(0, 0);
        for (int i = 1; i < 8; i++) {
            x.write(0, 0, 8, i);
        }
        Check.due("63 bytes", Check.write(x, 0, 0, 7, 1), 63);
        Check.due("65 bytes", Check.write(x, 0, 0, 2, 1), Check.STATE);
        Check.due("a refused write writes nothing", x.stream(0, 0, 0), 63);
        Check.due("64 bytes", Check.write(x, 0, 0, 1, 1), 64);
        Check.due("beyond 64", Check.write(x, 0, 0, 1, 1), Check.STATE);
        x.finish(0, 1);
        Check.due("finished", Check.write(x, 0, 1, 1, 1), Check.STATE);
        x.reset(0, 2);
        Check.due("reset", Check.write(x, 0, 2, 1, 1), Check.STATE);
        Check.due("finished at the other end's stream alone", Check.write(x, 1, 1, 1, 1), 1);
        x.close(0, 0);
        Check.due("closed", Check.write(x, 0, 3, 1, 1), Check.STATE);
        Check.due("the other end is not closed", Check.write(x, 1, 3, 1, 1), 1);
    }
}
