/** Promise 8: numbers, seals, and what is dropped. */
final class DeliverTest {
    public static void main(String[] args) {
        answers();
        toTheOtherEnd();
        processedOnce();
        spoiltPackets();
        firstBytesAbove15();
        firstNumbers();
        numbersNearTheExpected();
        numbersBelowTheExpected();
        lateNumberOverTheWay();
        closedGoesAhead();
        Check.done();
    }

    private static void answers() {
        StreamTransport x = new StreamTransport(0, 0);
        Check.due("nothing under way", x.deliver(0), -1);
        Check.fill(x, 0, 0, 1);
        x.send(0);
        Check.due("deliver(-1)", x.deliver(-1), -1);
        Check.due("deliver(1)", x.deliver(1), -1);
        Check.due("deliver(0)", x.deliver(0), 0);
        Check.due("under way no more", x.packets(), 0);
        Check.due("deliver(0) again", x.deliver(0), -1);
        Check.due("greatest processed", x.about(1, 4), 0);
        Check.due("at the sender none", x.about(0, 4), -1);
    }

    private static void toTheOtherEnd() {
        StreamTransport x = new StreamTransport(0, 0);
        Check.fill(x, 0, 0, 1);
        Check.fill(x, 1, 0, 2);
        x.send(0);
        x.send(1);
        Check.due("the later first", x.deliver(1), 0);
        Check.due("came to end 0", x.stream(0, 0, 6), 2);
        Check.due("not to end 1", x.stream(1, 0, 6), 0);
        Check.due("the other one", x.deliver(0), 0);
        Check.due("came to end 1", x.stream(1, 0, 6), 1);
    }

    private static void processedOnce() {
        StreamTransport x = new StreamTransport(0, 0);
        Check.fill(x, 0, 0, 1);
        x.send(0);
        x.copy(0);
        Check.due("first", x.deliver(0), 0);
        x.send(1);
        Check.due("second", x.deliver(0), 1);
        Check.due("a dropped one makes no ack due", x.send(1), -1);
    }

    private static void spoiltPackets() {
        for (int place = 0; place < 8; place++) {
            StreamTransport x = new StreamTransport(0, 0);
            Check.fill(x, 0, 0, 1);
            Check.due("send", x.send(0), 8);
            x.spoil(0, place, 16);
            Check.due("spoilt at " + place, x.deliver(0), 1);
            Check.due("nothing was processed", x.about(1, 4), -1);
            Check.due("nothing came", x.stream(1, 0, 6), 0);
            Check.due("no ack", x.send(1), -1);
            Check.due("not closed", x.closed(1), -1);
        }
        StreamTransport x = new StreamTransport(0, 0);
        Check.fill(x, 0, 0, 1);
        x.send(0);
        x.spoil(0, 2, 5);
        x.spoil(0, 2, 5);
        Check.due("mended", x.deliver(0), 0);
    }

    private static int sealOf(int... bytes) {
        int c = 40503;
        for (int b : bytes) {
            c = (c ^ b) * 16777619;
        }
        return c >>> 16;
    }

    /** The packet 0, 2, 0, 0, 2, 1 gets another first byte, and the seal that fits to it. */
    private static void firstBytesAbove15() {
        for (int first : new int[] {16, 32, 240}) {
            StreamTransport x = new StreamTransport(0, 0);
            Check.fill(x, 0, 0, 1);
            x.send(0);
            int change = sealOf(0, 2, 0, 0, 2, 1) ^ sealOf(first, 2, 0, 0, 2, 1);
            x.spoil(0, 0, first);
            x.spoil(0, 6, change >> 8);
            x.spoil(0, 7, change & 255);
            Check.due("first byte " + first + ", rightly sealed", x.deliver(0), 1);
        }
        StreamTransport x = new StreamTransport(0, 0);
        Check.fill(x, 0, 0, 1);
        x.send(0);
        int change = sealOf(0, 2, 0, 0, 2, 1) ^ sealOf(5, 2, 0, 0, 2, 1) ^ 5;
        x.spoil(0, 0, 5);
        x.spoil(0, 6, change >> 8);
        x.spoil(0, 7, change & 255);
        Check.due("first byte 5, rightly sealed", x.deliver(0), 0);
        Check.due("its number", x.about(1, 4), 5);
    }

    private static void firstNumbers() {
        for (int n = 0; n < 40; n++) {
            StreamTransport x = new StreamTransport(0, 0);
            Check.due("the first one, " + n, x.craft(0, n), n < 16 ? 0 : 1);
            Check.due("greatest processed", x.about(0, 4), n < 16 ? n : -1);
        }
    }

    private static StreamTransport with(int... numbers) {
        StreamTransport x = new StreamTransport(0, 0);
        for (int n : numbers) {
            Check.due("craft " + n, x.craft(0, n), 0);
        }
        return x;
    }

    private static void numbersNearTheExpected() {
        for (int n = 0; n < 60; n++) {
            StreamTransport x = with(15, 24, 29);
            boolean isNear = n >= 23 && n <= 38;
            boolean isNew = n != 24 && n != 29;
            Check.due("expected is 30, comes " + n, x.craft(0, n), isNear && isNew ? 0 : 1);
            Check.due("greatest", x.about(0, 4), isNear && n > 29 ? n : 29);
        }
    }

    private static void numbersBelowTheExpected() {
        for (int n = 0; n < 30; n++) {
            StreamTransport x = with(2);
            // Expected is 3: all from 0 to 11 are nearest, and 12 to 15 as no number is below 0.
            Check.due("expected is 3, comes " + n, x.craft(0, n), n < 16 && n != 2 ? 0 : 1);
        }
    }

    private static void lateNumberOverTheWay() {
        StreamTransport x = new StreamTransport(15, 31);
        for (int i = 0; i < 14; i++) {
            Check.fill(x, 0, 0, 1);
            x.send(0);
        }
        for (int i = 0; i < 13; i++) {
            Check.due("in order but the first", x.deliver(1), 0);
        }
        Check.due("0 is 14 below what is expected: taken for 16", x.deliver(0), 1);
        StreamTransport y = new StreamTransport(15, 31);
        for (int i = 0; i < 8; i++) {
            Check.fill(y, 0, 0, 1);
            y.send(0);
        }
        for (int i = 6; i > 0; i--) {
            Check.due("backwards", y.deliver(i), 0);
        }
        Check.due("7 below what is expected", y.deliver(0), 0);
        Check.due("the last", y.deliver(0), 0);
        Check.due("all came", y.stream(1, 0, 6), 8);
    }

    private static void closedGoesAhead() {
        StreamTransport x = new StreamTransport(0, 0);
        Check.fill(x, 0, 0, 1);
        x.send(0);
        x.copy(0);
        x.copy(0);
        x.spoil(1, 0, 255);
        x.deliver(0);
        x.close(1, 1);
        Check.due("spoilt, at a closed end", x.deliver(0), 2);
        Check.due("doubled, at a closed end", x.deliver(0), 2);
        Check.due("under way no more", x.packets(), 0);
    }
}
