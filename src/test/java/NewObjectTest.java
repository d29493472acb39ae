/** Promise 1, the constants, and the calls that an object has. */
final class NewObjectTest {
    public static void main(String[] args) {
        Check.due("NONE", StreamTransport.NONE, -1);
        nothingWasDone();
        windowsAreTheLowestBits();
        lastsForAllItsCalls();
        Check.done();
    }

    private static void nothingWasDone() {
        StreamTransport x = new StreamTransport(3, 9);
        Check.due("packets", x.packets(), 0);
        for (int end = 0; end < 2; end++) {
            Check.due("send", x.send(end), -1);
            Check.due("closed", x.closed(end), -1);
            int[] about = {0, 0, 17, 17, -1, 0};
            for (int what = 0; what < 6; what++) {
                Check.due("about " + what, x.about(end, what), about[what]);
            }
            int[] stream = {0, 0, 0, 7, 0, 0, 0, -1, 7};
            for (int s = 0; s < 4; s++) {
                for (int what = 0; what < 9; what++) {
                    Check.due("stream " + what, x.stream(end, s, what), stream[what]);
                }
            }
        }
        Check.due("the first tick", x.tick(), 1);
        Check.due("raw bytes", x.raw(1, 0), 1);
    }

    private static void windowsAreTheLowestBits() {
        int[][] cases = {{0, 0, 4, 8}, {15, 31, 19, 39}, {16, 32, 4, 8}, {-1, -1, 19, 39}, {37, 70, 9, 14},
            {Integer.MIN_VALUE, Integer.MAX_VALUE, 4, 39}};
        for (int[] c : cases) {
            StreamTransport x = new StreamTransport(c[0], c[1]);
            Check.due("SW of " + c[0], x.stream(1, 2, 3), c[2]);
            Check.due("SW given of " + c[0], x.stream(0, 1, 8), c[2]);
            Check.due("CW of " + c[1], x.about(0, 2), c[3]);
            Check.due("CW given of " + c[1], x.about(1, 3), c[3]);
        }
    }

    /** An ACK in each packet, so that as many as may be are sent in the calls of an object. */
    private static void lastsForAllItsCalls() {
        StreamTransport x = new StreamTransport(15, 31);
        for (int number = 0; number < 170; number++) {
            Check.due("raw", x.raw(1, 0), 1);
            Check.due("craft", x.craft(0, number), 0);
            Check.due("is there a packet", x.send(0) > 0, true);
        }
        Check.due("next number", x.about(0, 0), 170);
        Check.due("greatest processed", x.about(0, 4), 169);
    }
}
