/** The edges that the paragraphs on the PACKET and on RECEIVING name: numbers, sizes, seals, what is dropped. */
final class EdgesOfPacketsTest {
    public static void main(String[] args) {
        numbersFrom0ForEachEnd();
        firstByteWrapsAround();
        atMost40Bytes();
        sealOfEachEnd();
        sealOfGreatNumbers();
        firstNumberOfAll();
        nearestToTheExpected();
        ofTwoAsNearTheGreater();
        expectedIsBehindTheGreatest();
        atLeast0();
        firstBytesAbove15();
        packetOfThreeBytes();
        everyBitOfTheSeal();
        sealOfAnotherNumber();
        sealOfAnotherEnd();
        processedBefore();
        droppedChangesNothing();
        closedEndProcessesNothing();
        Check.done();
    }

    /** "A PACKET has a full NUMBER 0, 1, .. for each end (counted up with each packet sent)" */
    private static void numbersFrom0ForEachEnd() {
        StreamTransport x = new StreamTransport(0, 0);
        Check.due("first of end 0", x.about(0, 0), 0);
        for (int n = 0; n < 3; n++) {
            Check.fill(x, 0, 0, 1);
            Check.sends("end 0", x, 0, n, 2, 0, n, 2, n + 1);
            Check.due("next of end 0", x.about(0, 0), n + 1);
        }
        Check.due("first of end 1", x.about(1, 0), 0);
        Check.fill(x, 1, 0, 1);
        Check.sends("end 1", x, 1, 0, 2, 0, 0, 2, 1);
        Check.due("nothing to send", x.send(1), -1);
        Check.due("that uses up none", x.about(1, 0), 1);
    }

    private static int seal(int sender, int number, int... bytes) {
        int c = 40503 + sender;
        for (int b : bytes) {
            c = (c ^ b) * 16777619;
        }
        return (c >>> 16) ^ (number & 65535);
    }

    private static void sealed(String what, StreamTransport x, int sender, int number, int... bytes) {
        Check.due(what + ", bytes", x.packet(0, -1), bytes.length + 2);
        int seal = seal(sender, number, bytes);
        Check.due(what + ", higher byte of the seal", x.packet(0, bytes.length), seal >>> 8);
        Check.due(what + ", lower byte of the seal", x.packet(0, bytes.length + 1), seal & 255);
    }

    /** "its number % 16": 15 is followed by 0; the seal tells 0 from 16. */
    private static void firstByteWrapsAround() {
        StreamTransport x = new StreamTransport(0, 0);
        for (int n = 0; n < 34; n++) {
            Check.craft(x, 0, n, 0);
            Check.due("send", x.send(0), 7);
            Check.due("first byte of packet " + n, x.packet(0, 0), n % 16);
            sealed("packet " + n, x, 0, n, n % 16, 1, n, n, 0);
            x.lose(0);
        }
    }

    /** "a row of at most 40 bytes", "a packet has at most 37 bytes of frames" */
    private static void atMost40Bytes() {
        StreamTransport x = new StreamTransport(15, 31);
        for (int s = 0; s < 4; s++) {
            Check.fill(x, 0, s, 19);
        }
        Check.due("a full packet", x.send(0), 40);
        Check.due("its bytes", x.packet(0, -1), 40);
        Check.due("the last", x.packet(0, 39) >= 0, true);
        Check.due("behind the last", x.packet(0, 40), -1);
        Check.due("it comes", x.deliver(0), 0);
        Check.due("12 of stream 0", x.stream(1, 0, 6), 12);
        Check.due("12 of stream 1", x.stream(1, 1, 6), 12);
        Check.due("1 of stream 2", x.stream(1, 2, 6), 1);
        Check.due("0 of stream 3", x.stream(1, 3, 6), 0);
        for (int s = 0; s < 16; s++) {
            int n = x.send(0);
            Check.due("never more", n <= 40, true);
        }
    }

    /** "The seal is made of c = 40503 + the end that sends", "the higher byte first" */
    private static void sealOfEachEnd() {
        for (int end = 0; end < 2; end++) {
            for (int b = 0; b < 256; b += 5) {
                StreamTransport x = new StreamTransport(0, 0);
                x.write(end, 3, 1, b);
                x.send(end);
                sealed("end " + end + ", byte " + b, x, end, 0, 0, 2, 3, 0, 2, b);
            }
        }
    }

    /** "joined by ^ with the lowest 16 of the full number": also of one above 255. */
    private static void sealOfGreatNumbers() {
        StreamTransport x = new StreamTransport(0, 0);
        for (int n = 15; n < 600; n += 9) {
            Check.due("as far as may be, " + n, x.craft(0, n), 0);
        }
        Check.due("greatest", x.about(0, 4), 591);
        Check.due("9999", x.craft(0, 9999), 1);
    }

    /** "(0 when none was)": the first packet has a number from 0 to 15. */
    private static void firstNumberOfAll() {
        for (int n = 0; n < 48; n++) {
            StreamTransport x = new StreamTransport(0, 0);
            Check.due("first " + n, x.craft(1, n), n < 16 ? 0 : 1);
            Check.due("greatest", x.about(1, 4), n < 16 ? n : -1);
        }
    }

    private static StreamTransport behind(int... numbers) {
        StreamTransport x = new StreamTransport(0, 0);
        for (int n : numbers) {
            Check.due("craft " + n, x.craft(0, n), 0);
        }
        return x;
    }

    /** "nearest to e": 7 below to 8 above; others are taken for one of these, and the seal is wrong then. */
    private static void nearestToTheExpected() {
        for (int e = 17; e <= 25; e++) {
            for (int n = 0; n <= e + 24; n++) {
                StreamTransport x = behind(15, e - 1);
                boolean isNear = n >= e - 7 && n <= e + 8;
                boolean wasThere = n == 15 || n == e - 1;
                Check.due("expected " + e + ", comes " + n, x.craft(0, n), isNear && !wasThere ? 0 : 1);
            }
        }
    }

    /** "of two as near the greater": 8 above is taken, 8 below is taken for it. */
    private static void ofTwoAsNearTheGreater() {
        StreamTransport x = behind(15, 19);
        Check.due("12, 8 below 20", x.craft(0, 12), 1);
        Check.due("greatest", x.about(0, 4), 19);
        Check.due("13, 7 below 20", x.craft(0, 13), 0);
        Check.due("29, 9 above 20", x.craft(0, 29), 1);
        Check.due("28, 8 above 20", x.craft(0, 28), 0);
        Check.due("greatest", x.about(0, 4), 28);
    }

    /** "e, one more than the greatest number processed there": one that is dropped or lower moves nothing. */
    private static void expectedIsBehindTheGreatest() {
        StreamTransport x = behind(15, 24, 20);
        Check.due("dropped", x.craft(0, 24), 1);
        Check.due("17, 8 below 25", x.craft(0, 17), 1);
        Check.due("18, 7 below 25", x.craft(0, 18), 0);
        Check.due("34, 9 above 25", x.craft(0, 34), 1);
        Check.due("33, 8 above 25", x.craft(0, 33), 0);
        Check.due("42, 8 above 34", x.craft(0, 42), 0);
        Check.due("the other end has its own", x.about(1, 4), -1);
    }

    /** "at least 0": what would be nearest below 0 is the one 16 above. */
    private static void atLeast0() {
        for (int e = 1; e < 8; e++) {
            for (int n = 0; n < 24; n++) {
                StreamTransport x = behind(e - 1);
                Check.due("expected " + e + ", comes " + n, x.craft(0, n), n < 16 && n != e - 1 ? 0 : 1);
            }
        }
        StreamTransport x = behind(0);
        Check.due("15 is not -1", x.craft(0, 15), 0);
        Check.due("greatest", x.about(0, 4), 15);
    }

    /** A packet of end 0 with a byte gets another first byte, and the seal for a number that it is taken for. */
    private static StreamTransport withFirstByte(int first, int number) {
        StreamTransport x = new StreamTransport(0, 0);
        Check.fill(x, 0, 0, 1);
        x.send(0);
        int change = seal(0, 0, 0, 2, 0, 0, 2, 1) ^ seal(0, number, first, 2, 0, 0, 2, 1);
        x.spoil(0, 0, first);
        x.spoil(0, 6, change >>> 8);
        x.spoil(0, 7, change & 255);
        return x;
    }

    /** "First bytes above 15 .. are DROPPED": 15 is none of them, 16 to 255 are. */
    private static void firstBytesAbove15() {
        Check.due("15", withFirstByte(15, 15).deliver(0), 0);
        for (int first = 16; first < 256; first++) {
            Check.due("first byte " + first, withFirstByte(first, first % 16).deliver(0), 1);
            Check.due("first byte " + first, withFirstByte(first, first).deliver(0), 1);
        }
    }

    /** "packets of fewer than three bytes .. are DROPPED": one of three has no frames, and is processed. */
    private static void packetOfThreeBytes() {
        StreamTransport x = new StreamTransport(0, 0);
        Check.due("three bytes", x.craft(0, 0), 0);
        Check.due("greatest", x.about(0, 4), 0);
        Check.due("again", x.craft(0, 0), 1);
    }

    /** "wrong seals .. are DROPPED": each bit of it counts, and each bit of what it seals. */
    private static void everyBitOfTheSeal() {
        for (int place = 0; place < 8; place++) {
            for (int bit = 0; bit < 8; bit++) {
                StreamTransport x = new StreamTransport(0, 0);
                Check.fill(x, 0, 0, 1);
                Check.due("send", x.send(0), 8);
                x.spoil(0, place, 1 << bit);
                Check.due("bit " + bit + " of byte " + place, x.deliver(0), 1);
                Check.due("nothing is processed", x.about(1, 4), -1);
            }
        }
    }

    /** "joined by ^ with the lowest 16 of the full number": a seal for 16 more or less is wrong. */
    private static void sealOfAnotherNumber() {
        Check.due("4 as 4", withFirstByte(4, 4).deliver(0), 0);
        Check.due("4 as 20", withFirstByte(4, 20).deliver(0), 1);
        Check.due("4 as 36", withFirstByte(4, 36).deliver(0), 1);
        Check.due("4 as 0", withFirstByte(4, 0).deliver(0), 1);
    }

    /** "40503 + the end that sends": what is sealed as from the end that receives is wrong. */
    private static void sealOfAnotherEnd() {
        StreamTransport x = new StreamTransport(0, 0);
        Check.fill(x, 0, 0, 1);
        x.send(0);
        int change = seal(0, 0, 0, 2, 0, 0, 2, 1) ^ seal(1, 0, 0, 2, 0, 0, 2, 1);
        x.spoil(0, 6, change >>> 8);
        x.spoil(0, 7, change & 255);
        Check.due("sealed as from end 1", x.deliver(0), 1);
    }

    /** "numbers processed before are DROPPED": also one with other frames, and one that closed nothing. */
    private static void processedBefore() {
        StreamTransport x = behind(3, 7);
        Check.due("7 again", Check.craft(x, 0, 7, 0), 1);
        Check.due("3 again", Check.craft(x, 0, 3, 0), 1);
        Check.due("5, between them", x.craft(0, 5), 0);
        Check.due("5 again", x.craft(0, 5), 1);
        Check.due("0", x.craft(0, 0), 1);
        Check.due("1", x.craft(0, 1), 0);
        Check.due("at the other end", x.craft(1, 7), 0);
    }

    /** "DROPPED": no frame is taken, no ACK is due, and it may still come unspoilt. */
    private static void droppedChangesNothing() {
        StreamTransport x = new StreamTransport(0, 0);
        Check.fill(x, 0, 0, 1);
        x.send(0);
        x.copy(0);
        x.spoil(0, 5, 1);
        String before = Check.state(x, 1);
        Check.due("spoilt", x.deliver(0), 1);
        Check.due("nothing changed", Check.state(x, 1).equals(before), true);
        Check.due("no ACK", x.send(1), -1);
        Check.due("unspoilt", x.deliver(0), 0);
        Check.drain(x, 1, 0, 1);
    }

    /** "RECEIVING at an end that is not CLOSED": at one that is, nothing is processed. */
    private static void closedEndProcessesNothing() {
        StreamTransport x = new StreamTransport(0, 0);
        Check.fill(x, 1, 0, 2);
        x.send(1);
        x.close(1, 0);
        Check.fill(x, 0, 0, 1);
        x.send(0);
        String before = Check.state(x, 1);
        Check.due("it is closed", x.deliver(1), 2);
        Check.due("it is closed", Check.craft(x, 1, 1, 1, 0, 0, 0, 4, 0, 60, 3, 60, 6, 9), 2);
        Check.due("nothing changed", Check.state(x, 1).equals(before), true);
    }
}
