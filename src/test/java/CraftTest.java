/** Promises 12 (raw) and 13 (craft). */
final class CraftTest {
    public static void main(String[] args) {
        rawBytes();
        mostRawBytes();
        craftAnswers();
        rawBytesAreUsedUp();
        sealedAsFromTheOtherEnd();
        Check.done();
    }

    private static void rawBytes() {
        StreamTransport x = new StreamTransport(15, 31);
        Check.due("raw(0)", x.raw(0, 1), -1);
        Check.due("raw(9)", x.raw(9, 1), -1);
        Check.due("raw(-1)", x.raw(-1, 1), -1);
        Check.due("raw(least)", x.raw(Integer.MIN_VALUE, 1), -1);
        Check.due("raw(most)", x.raw(Integer.MAX_VALUE, 1), -1);
        Check.due("the lowest first", x.raw(4, 0xEE0E000002L), 4);
        Check.due("eight", x.raw(8, 0x8706050403020180L), 12);
        Check.due("nothing else", x.packets(), 0);
        Check.due("the last byte is missing", x.craft(1, 0), 0);
        Check.due("k is 14: 7 bytes, and a frame that is none", x.closed(1), 1);
        for (int b : new int[] {0x80, 1, 2, 3, 4, 5, 6}) {
            Check.due("byte", Check.read(x, 1, 0), b);
        }
    }

    private static void mostRawBytes() {
        StreamTransport x = new StreamTransport(15, 31);
        for (int i = 1; i <= 4; i++) {
            Check.due("raw", x.raw(8, 0), 8 * i);
        }
        Check.due("38", x.raw(6, 0), -1);
        Check.due("37", x.raw(5, 0), 37);
        Check.due("38", x.raw(1, 0), -1);
        Check.due("37 pings", x.craft(0, 0), 0);
        Check.due("not closed", x.closed(0), -1);
        Check.due("none are left", x.raw(1, 0), 1);
    }

    private static void craftAnswers() {
        StreamTransport x = new StreamTransport(0, 0);
        x.raw(1, 0);
        Check.due("end -1", x.craft(-1, 0), -1);
        Check.due("end 2", x.craft(2, 0), -1);
        Check.due("number -1", x.craft(0, -1), -1);
        Check.due("number 10000", x.craft(0, 10000), -1);
        Check.due("the raw bytes stay", x.raw(1, 0), 2);
        Check.due("processed", x.craft(0, 3), 0);
        Check.due("dropped, it was processed", x.craft(0, 3), 1);
        Check.due("dropped, it is too far", x.craft(0, 9999), 1);
        Check.due("without frames", x.craft(0, 4), 0);
        Check.due("greatest", x.about(0, 4), 4);
        x.close(0, 0);
        Check.due("closed", x.craft(0, 5), 2);
        Check.due("closed goes ahead", x.craft(0, 3), 2);
        Check.due("no number goes ahead of that", x.craft(0, -1), -1);
        Check.due("never under way", x.packets(), 0);
    }

    private static void rawBytesAreUsedUp() {
        StreamTransport x = new StreamTransport(0, 0);
        x.raw(3, 0);
        Check.due("dropped", x.craft(0, 500), 1);
        Check.due("there are none then", x.raw(1, 0), 1);
        x.close(0, 0);
        Check.due("closed", x.craft(0, 0), 2);
        Check.due("there are none then", x.raw(2, 0), 2);
    }

    private static void sealedAsFromTheOtherEnd() {
        StreamTransport x = new StreamTransport(0, 0);
        Check.due("to end 0", Check.craft(x, 0, 0, 2, 1, 0, 2, 7), 0);
        Check.due("to end 1", Check.craft(x, 1, 0, 2, 1, 0, 2, 8), 0);
        Check.due("end 0", Check.read(x, 0, 1), 7);
        Check.due("end 1", Check.read(x, 1, 1), 8);
        Check.due("it uses up no number of the other end", x.about(1, 0), 0);
        Check.fill(x, 1, 0, 1);
        x.send(1);
        Check.due("so that 0 comes a second time", x.deliver(0), 1);
    }
}
