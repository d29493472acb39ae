import java.util.Arrays;

/** The edges that the paragraph on NUMBERS names: as they come, and as they are sent. */
final class EdgesOfNumbersTest {
    public static void main(String[] args) {
        everyFirstByte();
        oneByte();
        twoBytes();
        fourBytes();
        bytesFrom192BeginNone();
        moreBytesThanNeeded();
        bytesOfANumberMissing();
        kindsAreNoNumbers();
        ackOf63And64();
        ackOfGreatNumbers();
        furtherRangeOf63And64();
        placeOf63And64();
        sizeOf63And64();
        limitOf63And64();
        limitForAllOf63And64();
        Check.done();
    }

    /** "one byte below 64 ..; 64 .. 127 and a byte ..; 128 .. 191 and three bytes ..; from 192 on begin none" */
    private static void everyFirstByte() {
        for (int b = 0; b < 256; b++) {
            int want = b < 64 ? b : b < 128 ? (b - 64) * 256 + 1 : b < 192 ? (b - 128) * 16777216 + 0x010203 : 1;
            Check.due("first byte " + b, Check.codeOf(6, b, 1, 2, 3), want);
        }
    }

    /** "one byte below 64 is that number" */
    private static void oneByte() {
        Check.due("0", Check.codeOf(6, 0), 0);
        Check.due("63", Check.codeOf(6, 63), 63);
        Check.due("64 alone is none", Check.codeOf(6, 64), 1);
    }

    /** "64 .. 127 and a byte: (the first - 64) * 256 + the second" */
    private static void twoBytes() {
        Check.due("least", Check.codeOf(6, 64, 0), 0);
        Check.due("64", Check.codeOf(6, 64, 64), 64);
        Check.due("255", Check.codeOf(6, 64, 255), 255);
        Check.due("256", Check.codeOf(6, 65, 0), 256);
        Check.due("greatest", Check.codeOf(6, 127, 255), 16383);
    }

    /** "128 .. 191 and three bytes: likewise (the first - 128 the highest of four)" */
    private static void fourBytes() {
        Check.due("least", Check.codeOf(6, 128, 0, 0, 0), 0);
        Check.due("255", Check.codeOf(6, 128, 0, 0, 255), 255);
        Check.due("16384", Check.codeOf(6, 128, 0, 64, 0), 16384);
        Check.due("65536", Check.codeOf(6, 128, 1, 0, 0), 65536);
        Check.due("16777216", Check.codeOf(6, 129, 0, 0, 0), 16777216);
        Check.due("greatest", Check.codeOf(6, 191, 255, 255, 255), (1 << 30) - 1);
    }

    /** "Bytes from 192 on begin none.": in each frame that has a number, and at each place of it. */
    private static void bytesFrom192BeginNone() {
        int[][] frames = {{1, 0, 0, 2, 0, 0, 0, 0}, {2, 0, 0, 1}, {3, 0}, {4, 0, 0}, {5, 0, 0}, {6, 0}};
        for (int[] frame : frames) {
            for (int place = 1; place < frame.length; place++) {
                for (int b : new int[] {192, 255}) {
                    int[] wrong = Arrays.copyOf(frame, frame.length + 8);
                    wrong[place] = b;
                    Check.due(b + " at " + place + " of frame " + frame[0], Check.codeOf(wrong), 1);
                }
            }
        }
    }

    private static int[] inBytes(int n, int value) {
        if (n == 1) {
            return new int[] {value};
        }
        return n == 2 ? new int[] {64, value} : new int[] {128, 0, 0, value};
    }

    private static int[] frame(int n, int kind, int... numbers) {
        int[] row = {kind};
        for (int value : numbers) {
            int[] more = inBytes(n, value);
            int at = row.length;
            row = Arrays.copyOf(row, at + more.length);
            System.arraycopy(more, 0, row, at, more.length);
        }
        return row;
    }

    /** "received ones may have more": each number of each frame, in two and in four bytes. */
    private static void moreBytesThanNeeded() {
        for (int n : new int[] {1, 2, 4}) {
            StreamTransport x = new StreamTransport(0, 0);
            for (int i = 0; i < 4; i++) {
                Check.fill(x, 0, i, 1);
                x.send(0);
            }
            Check.fill(x, 0, 0, 1);
            x.send(0);
            Check.craft(x, 0, 0, frame(n, 1, 4, 0, 2, 0, 0, 0, 0));
            Check.due("4, 2 and 0 are acked", x.stream(0, 0, 2) + x.stream(0, 2, 2), 3);
            Check.due("3 waits, 1 is lost", x.about(0, 1), 1);
            int[] data = Arrays.copyOf(frame(n, 2, 3, 1, 3), 1 + 3 * n + 1);
            data[1 + 3 * n] = 77;
            Check.craft(x, 0, 1, data);
            Check.due("size", x.stream(0, 3, 7), 2);
            Check.craft(x, 0, 2, 2, 3, 0, 2, 76);
            Check.due("a byte", Check.read(x, 0, 3), 76);
            Check.due("the byte behind it", Check.read(x, 0, 3), 77);
            Check.craft(x, 0, 3, frame(n, 3, 50));
            Check.due("limit for all", x.about(0, 2), 50);
            Check.craft(x, 0, 4, frame(n, 4, 2, 40));
            Check.due("limit", x.stream(0, 2, 3), 40);
            Check.craft(x, 0, 5, frame(n, 5, 1, 3));
            Check.due("size of a reset", x.stream(0, 1, 7), 3);
            Check.due("not closed", x.closed(0), -1);
            Check.craft(x, 0, 6, frame(n, 6, 30));
            Check.due("code", x.closed(0), 30);
        }
    }

    /** "bytes or numbers missing": a number of two or four bytes ends behind its last one. */
    private static void bytesOfANumberMissing() {
        int[][] frames = {{1, 0, 0, 2, 0, 0, 0, 0}, {2, 0, 0, 0}, {3, 0}, {4, 0, 0}, {5, 0, 0}, {6, 0}};
        for (int[] frame : frames) {
            int numbers = frame.length - 1;
            for (int n : new int[] {1, 2, 4}) {
                int[] whole = frame(n, frame[0], Arrays.copyOfRange(frame, 1, 1 + numbers));
                for (int size = 1; size < whole.length; size++) {
                    Check.due(size + " bytes of frame " + frame[0], Check.codeOf(Arrays.copyOf(whole, size)), 1);
                }
                int code = Check.codeOf(whole);
                Check.due("all of frame " + frame[0], code, frame[0] == 1 ? 5 : frame[0] == 6 ? 0 : -1);
            }
        }
    }

    /** "FRAMES (the first byte tells which)": a byte, no number that may have more bytes. */
    private static void kindsAreNoNumbers() {
        Check.due("64, 0", Check.codeOf(64, 0), 1);
        Check.due("128, 0, 0, 0", Check.codeOf(128, 0, 0, 0), 1);
        Check.due("64, 3, 9", Check.codeOf(64, 3, 9), 1);
    }

    /** "Sent are numbers in as few bytes as may be": both numbers of an ACK. */
    private static void ackOf63And64() {
        StreamTransport x = new StreamTransport(0, 0);
        for (int n = 0; n < 63; n++) {
            x.craft(0, n);
        }
        Check.craft(x, 0, 63, 0);
        Check.sends("63 in one byte", x, 0, 0, 1, 63, 63, 0);
        Check.craft(x, 0, 64, 0);
        Check.sends("64 in two bytes", x, 0, 1, 1, 64, 64, 64, 64, 0);
    }

    /** "Sent are numbers in as few bytes as may be": the greatest number that 512 calls can reach, in two bytes. */
    private static void ackOfGreatNumbers() {
        StreamTransport x = new StreamTransport(0, 0);
        int number = 15;
        for (int i = 0; i < 490; i++) {
            x.craft(0, number);
            number += 9;
        }
        Check.craft(x, 0, number, 0);
        Check.due("greatest", x.about(0, 4), 15 + 490 * 9);
        Check.sends("4425 is 17 * 256 + 73", x, 0, 0, 1, 64 + 17, 73, 0, 2, 7, 0, 7, 0);
        StreamTransport y = new StreamTransport(0, 0);
        for (int n = 0; n < 320; n++) {
            y.craft(0, n);
        }
        Check.craft(y, 0, 320, 0);
        Check.sends("320, twice", y, 0, 0, 1, 65, 64, 65, 64, 0);
    }

    /** "Sent are numbers in as few bytes as may be": the last number of an ACK. */
    private static void furtherRangeOf63And64() {
        for (int last = 63; last <= 64; last++) {
            StreamTransport x = new StreamTransport(0, 0);
            for (int n = 0; n <= last; n++) {
                x.craft(0, n);
            }
            Check.craft(x, 0, last + 2, 0);
            if (last == 63) {
                Check.sends("63 in one byte", x, 0, 0, 1, 64, 65, 0, 1, 0, 63);
            } else {
                Check.sends("64 in two bytes", x, 0, 0, 1, 64, 66, 0, 1, 0, 64, 64);
            }
        }
    }

    /** All of 63 or 64 bytes of a stream of end 0 are sent; the next packet is number 6. */
    private static StreamTransport withSent(int n) {
        StreamTransport x = new StreamTransport(15, 31);
        x.send(0);
        Check.craft(x, 0, 0, 3, 64, 64, 4, 2, 64, 64);
        Check.fill(x, 0, 2, n);
        for (int i = 0; i < 6; i++) {
            x.send(0);
            x.lose(0);
        }
        Check.due("sent", x.stream(0, 2, 1), n);
        return x;
    }

    /** "Sent are numbers in as few bytes as may be": the place of a STREAM frame. */
    private static void placeOf63And64() {
        StreamTransport x = withSent(63);
        Check.fill(x, 0, 2, 1);
        Check.sends("the last byte, at 63", x, 0, 6, 2, 2, 63, 2, 64);
        x.finish(0, 2);
        Check.sends("the end, at 64", x, 0, 7, 2, 2, 64, 64, 1);
    }

    /** "Sent are numbers in as few bytes as may be": the size of a RESET. */
    private static void sizeOf63And64() {
        StreamTransport x = withSent(63);
        x.reset(0, 2);
        Check.sends("63", x, 0, 6, 5, 2, 63);
        StreamTransport y = withSent(64);
        y.reset(0, 2);
        Check.sends("64", y, 0, 6, 5, 2, 64, 64);
    }

    /** Two bytes of stream 0 come to end 1 as packet number, and are read. */
    private static void readTwo(StreamTransport x, int number) {
        int at = x.stream(1, 0, 5);
        Check.craft(x, 1, number, 2, 0, at, 4, at + 1, at + 2);
        Check.drain(x, 1, 0, 2);
    }

    /** "Sent are numbers in as few bytes as may be": a LIMIT. SW is 4: due by 2, and as it is 64. */
    private static void limitOf63And64() {
        StreamTransport x = new StreamTransport(0, 31);
        Check.craft(x, 1, 0, 2, 0, 0, 2, 1);
        Check.drain(x, 1, 0, 1);
        for (int number = 1; number <= 28; number++) {
            readTwo(x, number);
            x.send(1);
            x.lose(0);
        }
        Check.due("given", x.stream(1, 0, 8), 61);
        readTwo(x, 29);
        Check.sends("63 in one byte, 98 for all in two", x, 1, 12, 1, 29, 29, 0, 3, 64, 98, 4, 0, 63);
        Check.craft(x, 1, 30, 2, 0, 59, 2, 60);
        Check.drain(x, 1, 0, 1);
        Check.sends("64 in two bytes", x, 1, 13, 1, 30, 30, 0, 4, 0, 64, 64);
    }

    /** "Sent are numbers in as few bytes as may be": LIMIT-ALL. CW is 8: due by 4. */
    private static void limitForAllOf63And64() {
        for (int start = 3; start <= 4; start++) {
            StreamTransport x = new StreamTransport(15, 0);
            int number = 0;
            for (int u = 0; u < 52; u += 4) {
                int stream = u / 20;
                int at = x.stream(1, stream, 5);
                int n = u == 0 ? start : 4;
                Check.craft(x, 1, number++, Arrays.copyOf(new int[] {2, stream, at, 2 * n, 9, 9, 9, 9}, 4 + n));
                for (int i = 0; i < n; i++) {
                    Check.due("byte", Check.read(x, 1, stream), 9);
                }
                x.send(1);
                x.lose(0);
            }
            Check.craft(x, 1, number, 2, 3, 0, 8, 9, 9, 9, 9);
            Check.sends("an ACK", x, 1, x.about(1, 0) % 16, 1, number, number, 0);
            Check.due("what can be read", x.stream(1, 3, 6), 4);
            for (int i = 0; i < 4; i++) {
                Check.due("byte", Check.read(x, 1, 3), 9);
            }
            if (start == 3) {
                Check.sends("63 in one byte", x, 1, x.about(1, 0) % 16, 3, 63);
            } else {
                Check.sends("64 in two bytes", x, 1, x.about(1, 0) % 16, 3, 64, 64);
            }
        }
    }
}
