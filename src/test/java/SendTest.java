/** Promise 7: which frames are sent, in which order, and how much of them. */
final class SendTest {
    public static void main(String[] args) {
        noSuchEnd();
        numberAndSeal();
        atMostTwelveBytes();
        streamLimit();
        limitForAll();
        resetCountsForTheLimit();
        orderOfFrames();
        roomForStreams();
        roomForLimits();
        noRoomForAByte();
        roomForTheLastReset();
        ackRanges();
        ackOfFarNumbers();
        ackAloneIsNotTimed();
        fullWay();
        placeOf64();
        Check.done();
    }

    private static void noSuchEnd() {
        StreamTransport x = new StreamTransport(0, 0);
        Check.due("send(-1)", x.send(-1), -1);
        Check.due("send(2)", x.send(2), -1);
    }

    private static int seal(int sender, int number, int... bytes) {
        int c = 40503 + sender;
        for (int b : bytes) {
            c = (c ^ b) * 16777619;
        }
        return (c >>> 16) ^ number;
    }

    private static void numberAndSeal() {
        StreamTransport x = new StreamTransport(0, 0);
        for (int n = 0; n < 20; n++) {
            Check.craft(x, 1, n, 0);
            Check.due("send", x.send(1), 7);
            Check.bytes("ack", x, 0, n % 16, 1, n, n, 0);
            int seal = seal(1, n, n % 16, 1, n, n, 0);
            Check.due("seal, higher byte", x.packet(0, 5), seal >> 8);
            Check.due("seal, lower byte", x.packet(0, 6), seal & 255);
            Check.due("next number", x.about(1, 0), n + 1);
            x.lose(0);
        }
    }

    private static void atMostTwelveBytes() {
        StreamTransport x = new StreamTransport(15, 31);
        Check.fill(x, 0, 0, 19);
        x.finish(0, 0);
        Check.sends("twelve", x, 0, 0, 2, 0, 0, 24, 1, 2, 3, 4, 5, 6, 7, 8, 9, 10, 11, 12);
        Check.due("sent", x.stream(0, 0, 1), 12);
        Check.sends("the rest, with the end", x, 0, 1, 2, 0, 12, 15, 13, 14, 15, 16, 17, 18, 19);
        Check.due("nothing more", x.send(0), -1);
        StreamTransport y = new StreamTransport(15, 31);
        Check.fill(y, 0, 0, 12);
        y.finish(0, 0);
        Check.sends("twelve and the end", y, 0, 0, 2, 0, 0, 25, 1, 2, 3, 4, 5, 6, 7, 8, 9, 10, 11, 12);
    }

    private static void streamLimit() {
        StreamTransport x = new StreamTransport(1, 31);
        Check.fill(x, 0, 0, 7);
        x.finish(0, 0);
        Check.sends("below the limit 5, without the end", x, 0, 0, 2, 0, 0, 10, 1, 2, 3, 4, 5);
        Check.due("the limit holds, for the end, too", x.send(0), -1);
        Check.craft(x, 0, 0, 4, 0, 6);
        Check.due("limit", x.stream(0, 0, 3), 6);
        Check.sends("one more", x, 0, 1, 1, 0, 0, 0, 2, 0, 5, 2, 6);
        Check.craft(x, 0, 1, 4, 0, 3, 4, 0, 64, 200);
        Check.due("the greatest limit counts", x.stream(0, 0, 3), 200);
        Check.sends("the last, with the end", x, 0, 2, 1, 1, 1, 0, 2, 0, 6, 3, 7);
    }

    private static void limitForAll() {
        StreamTransport x = new StreamTransport(15, 2);
        Check.fill(x, 0, 0, 4);
        Check.fill(x, 0, 1, 4);
        Check.fill(x, 0, 3, 4);
        Check.sends("ten in all", x, 0, 0, 2, 0, 0, 8, 1, 2, 3, 4, 2, 1, 0, 8, 1, 2, 3, 4, 2, 3, 0, 4, 1, 2);
        Check.due("the limit holds", x.send(0), -1);
        Check.craft(x, 0, 0, 3, 9, 3, 11);
        Check.due("limit", x.about(0, 2), 11);
        Check.sends("one more", x, 0, 1, 1, 0, 0, 0, 2, 3, 2, 2, 3);
        Check.ticks(x, 6);
        Check.sends("lost ones whatever the limits are", x, 0, 2,
            2, 0, 0, 8, 1, 2, 3, 4, 2, 1, 0, 8, 1, 2, 3, 4, 2, 3, 0, 4, 1, 2);
    }

    private static void resetCountsForTheLimit() {
        StreamTransport x = new StreamTransport(15, 0);
        Check.fill(x, 0, 2, 6);
        Check.passes("six of eight", x, 0);
        x.reset(0, 2);
        Check.fill(x, 0, 0, 5);
        Check.sends("reset, and two that are left", x, 0, 1, 5, 2, 6, 2, 0, 0, 4, 1, 2);
    }

    private static void orderOfFrames() {
        StreamTransport x = new StreamTransport(0, 0);
        Check.craft(x, 0, 0, 2, 1, 0, 8, 1, 2, 3, 4);
        Check.drain(x, 0, 1, 4);
        Check.fill(x, 0, 0, 1);
        Check.fill(x, 0, 3, 2);
        x.finish(0, 3);
        x.reset(0, 2);
        x.reset(0, 1);
        Check.sends("all sorts", x, 0, 0, 1, 0, 0, 0, 3, 12, 4, 1, 8, 5, 1, 0, 5, 2, 0,
            2, 0, 0, 2, 1, 2, 3, 0, 5, 1, 2);
    }

    private static void roomForStreams() {
        StreamTransport x = new StreamTransport(15, 31);
        for (int s = 0; s < 3; s++) {
            Check.fill(x, 0, s, 12);
        }
        Check.fill(x, 0, 3, 1);
        Check.due("16 + 16 + 5 bytes of frames", x.send(0), 40);
        Check.due("one byte of stream 2", x.stream(0, 2, 1), 1);
        Check.due("no room for stream 3", x.stream(0, 3, 1), 0);
        Check.due("15 + 5 bytes of frames", x.send(0), 23);
        Check.due("all of stream 2", x.stream(0, 2, 1), 12);
        Check.due("stream 3", x.stream(0, 3, 1), 1);
    }

    private static void noRoomForAByte() {
        StreamTransport x = new StreamTransport(15, 31);
        Check.fill(x, 0, 0, 12);
        Check.fill(x, 0, 1, 9);
        Check.fill(x, 0, 2, 2);
        x.finish(0, 3);
        Check.craft(x, 0, 0, 0);
        Check.due("ack, two streams: 4 bytes are left, enough for an end, not for a byte", x.send(0), 3 + 4 + 16 + 13 + 4);
        Check.due("the end was sent", x.packet(0, 34), 2);
        Check.due("of stream 3", x.packet(0, 35), 3);
        Check.sends("what had no room", x, 0, 1, 2, 2, 0, 4, 1, 2);

        StreamTransport y = new StreamTransport(15, 31);
        Check.fill(y, 0, 0, 12);
        Check.fill(y, 0, 1, 10);
        y.finish(0, 2);
        Check.craft(y, 0, 0, 0);
        Check.due("3 bytes are left, too few for an end", y.send(0), 3 + 4 + 16 + 14);
        Check.sends("the end", y, 0, 1, 2, 2, 0, 1);

        StreamTransport z = new StreamTransport(15, 31);
        Check.fill(z, 0, 0, 12);
        Check.fill(z, 0, 1, 11);
        Check.fill(z, 0, 2, 3);
        z.finish(0, 2);
        Check.due("room for two bytes, not for the third, that has the end", z.send(0), 40);
        Check.due("no end", z.packet(0, 35), 4);
        Check.sends("the third", z, 0, 1, 2, 2, 2, 3, 3);
    }

    /** ACK 8, LIMIT-ALL 3, LIMITs 16, RESETs 12 bytes: the last has no room, and stays to be sent. */
    private static void roomForLimits() {
        StreamTransport x = withAllLimitsDue();
        Check.craft(x, 0, 21, 0);
        Check.craft(x, 0, 24, 0);
        Check.sends("all that there is room for", x, 0, 4, 1, 24, 0, 2, 1, 0, 0, 19, 3, 64, 219,
            4, 0, 64, 64, 4, 1, 64, 64, 4, 2, 64, 64, 4, 3, 64, 64, 5, 0, 0, 5, 1, 0, 5, 2, 0);
        Check.due("given", x.about(0, 3), 219);
        Check.sends("what had no room", x, 0, 5, 5, 3, 0);
    }

    /** The same with an ACK of 6 bytes: 37 bytes of frames. */
    private static void roomForTheLastReset() {
        StreamTransport x = withAllLimitsDue();
        Check.craft(x, 0, 21, 0);
        Check.sends("all", x, 0, 4, 1, 21, 0, 1, 0, 19, 3, 64, 219, 4, 0, 64, 64, 4, 1, 64, 64,
            4, 2, 64, 64, 4, 3, 64, 64, 5, 0, 0, 5, 1, 0, 5, 2, 0, 5, 3, 0);
        Check.due("nothing is left", x.send(0), -1);
    }

    /** End 0 got 20 packets and sent 20, and has all limits and four resets to send. */
    private static StreamTransport withAllLimitsDue() {
        StreamTransport x = new StreamTransport(15, 31);
        int number = 0;
        for (int place = 0; place < 45; place += 9) {
            for (int s = 0; s < 4; s++) {
                Check.craft(x, 0, number, 2, s, place, 18, 1, 1, 1, 1, 1, 1, 1, 1, 1);
                number++;
                for (int i = place; i < Math.min(place + 9, 44); i++) {
                    Check.due("byte", Check.read(x, 0, s), 1);
                }
                x.send(0);
                x.lose(0);
            }
        }
        // The 45th byte of each stream makes its limit 64, and the limit for all of them due.
        for (int s = 0; s < 4; s++) {
            Check.due("limit before", x.stream(0, s, 8), 55);
            Check.due("byte", Check.read(x, 0, s), 1);
            x.reset(0, s);
        }
        Check.due("next number", x.about(0, 0), 20);
        return x;
    }

    private static void ackRanges() {
        StreamTransport y = new StreamTransport(0, 0);
        Check.craft(y, 0, 0, 0);
        Check.craft(y, 0, 2, 0);
        Check.sends("two ranges, the lower one is 0 alone", y, 0, 0, 1, 2, 0, 1, 0, 0);
        StreamTransport x = new StreamTransport(0, 0);
        int[] numbers = {0, 1, 3, 5, 6, 7, 9, 12};
        for (int n : numbers) {
            Check.craft(x, 0, n, 0);
        }
        Check.sends("three highest ranges", x, 0, 0, 1, 12, 0, 2, 1, 0, 0, 2);
        Check.due("due no more", x.send(0), -1);
        Check.craft(x, 0, 8, 0);
        Check.sends("grown together", x, 0, 1, 1, 12, 0, 2, 1, 4, 0, 0);
        Check.craft(x, 0, 13);
        Check.due("no frame, no ack", x.send(0), -1);
        Check.craft(x, 0, 10, 1, 1, 0, 0);
        Check.due("ack, no ack", x.send(0), -1);
        Check.craft(x, 0, 11, 1, 1, 1, 0, 0);
        Check.sends("ack and ping", x, 0, 2, 1, 13, 8, 2, 0, 0, 0, 1);
    }

    private static void ackOfFarNumbers() {
        StreamTransport x = new StreamTransport(0, 0);
        for (int n = 15; n <= 150; n += 9) {
            Check.due("as far as may be", Check.craft(x, 0, n), 0);
        }
        for (int n = 151; n < 300; n++) {
            Check.due("one by one", Check.craft(x, 0, n), 0);
        }
        Check.craft(x, 0, 300, 0);
        Check.sends("numbers in two bytes", x, 0, 0, 1, 65, 44, 64, 150, 2, 7, 0, 7, 0);
    }

    private static void ackAloneIsNotTimed() {
        StreamTransport x = new StreamTransport(0, 0);
        Check.craft(x, 0, 0, 0);
        x.send(0);
        Check.due("not waited for", x.about(0, 1), 0);
        Check.ticks(x, 60);
        Check.due("no probe", x.send(0), -1);
        Check.due("b", x.about(0, 5), 0);
    }

    private static void fullWay() {
        StreamTransport x = new StreamTransport(0, 0);
        Check.fill(x, 0, 0, 1);
        x.send(0);
        for (int i = 0; i < 15; i++) {
            x.copy(0);
        }
        Check.fill(x, 0, 0, 1);
        Check.due("lost at once", x.send(0), 8);
        Check.due("16 are under way", x.packets(), 16);
        Check.due("its number is used up", x.about(0, 0), 2);
        Check.due("it is waited for", x.about(0, 1), 2);
        Check.due("its byte was sent", x.stream(0, 0, 1), 2);
        Check.due("the last one is a copy", x.packet(15, 0), 0);
        Check.due("nothing more", x.send(0), -1);
    }

    private static void placeOf64() {
        StreamTransport x = new StreamTransport(15, 31);
        Check.craft(x, 0, 0, 3, 65, 0, 4, 2, 64, 64);
        Check.fill(x, 0, 2, 64);
        for (int i = 0; i < 6; i++) {
            x.send(0);
        }
        Check.due("all sent", x.stream(0, 2, 1), 64);
        Check.due("nothing more", x.send(0), -1);
        x.finish(0, 2);
        Check.due("send", x.send(0), 8);
        Check.bytes("the place takes two bytes", x, 6, 6, 2, 2, 64, 64, 1);
    }
}
