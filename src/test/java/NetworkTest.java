/** Promises 9 (lose), 10 (copy), 11 (spoil), 15 (packets) and 16 (packet). */
final class NetworkTest {
    public static void main(String[] args) {
        loses();
        copies();
        copiesUpTo16();
        spoils();
        shows();
        Check.done();
    }

    /** Three packets of end 0 are under way, with the bytes 1, 2 and 3 of stream 0. */
    private static StreamTransport three() {
        StreamTransport x = new StreamTransport(0, 0);
        for (int i = 0; i < 3; i++) {
            Check.due("packets", x.packets(), i);
            Check.fill(x, 0, 0, 1);
            x.send(0);
        }
        return x;
    }

    private static void loses() {
        StreamTransport x = three();
        Check.due("lose(-1)", x.lose(-1), false);
        Check.due("lose(3)", x.lose(3), false);
        Check.due("packets", x.packets(), 3);
        Check.due("lose(1)", x.lose(1), true);
        Check.due("packets", x.packets(), 2);
        Check.due("first", x.packet(0, 0), 0);
        Check.due("second", x.packet(1, 0), 2);
        Check.due("third", x.packet(2, 0), -1);
        Check.due("its sender waits for it", x.about(0, 1), 3);
        x.lose(0);
        x.lose(0);
        Check.due("nothing left", x.lose(0), false);
        Check.due("packets", x.packets(), 0);
        Check.due("nothing came", x.about(1, 4), -1);
    }

    private static void copies() {
        StreamTransport x = three();
        Check.due("copy(-1)", x.copy(-1), false);
        Check.due("copy(3)", x.copy(3), false);
        Check.due("copy(1)", x.copy(1), true);
        Check.due("packets", x.packets(), 4);
        for (int i = -2; i < 9; i++) {
            Check.due("byte " + i + " of the copy", x.packet(3, i), x.packet(1, i));
        }
        Check.fill(x, 1, 0, 1);
        x.send(1);
        x.copy(4);
        Check.due("the copy's sender", x.packet(5, -2), 1);
        Check.due("the copy comes to the other end", x.deliver(5), 0);
        Check.due("end 0 got it", x.stream(0, 0, 6), 1);
        x.spoil(1, 5, 7);
        Check.due("the copy stays", x.packet(3, 5), 2);
        Check.due("the copy comes", x.deliver(3), 0);
        Check.due("the spoilt one does not", x.deliver(1), 1);
    }

    private static void copiesUpTo16() {
        StreamTransport x = three();
        for (int i = 3; i < 16; i++) {
            Check.due("copy", x.copy(0), true);
        }
        Check.due("16 are under way", x.copy(0), false);
        Check.due("packets", x.packets(), 16);
        Check.due("the last", x.packet(15, -1), 8);
        Check.due("deliver the last", x.deliver(15), 0);
        Check.due("room again", x.copy(14), true);
        Check.due("packets", x.packets(), 16);
    }

    private static void spoils() {
        StreamTransport x = three();
        Check.due("spoil(-1)", x.spoil(-1, 0, 1), false);
        Check.due("spoil(3)", x.spoil(3, 0, 1), false);
        Check.due("place -1", x.spoil(0, -1, 1), false);
        Check.due("place 8", x.spoil(0, 8, 1), false);
        Check.due("bits 0", x.spoil(0, 0, 0), false);
        Check.due("bits 256", x.spoil(0, 0, 256), false);
        Check.due("bits -1", x.spoil(0, 0, -1), false);
        Check.bytes("all is as it was", x, 0, 0, 2, 0, 0, 2, 1);
        Check.due("place 0", x.spoil(1, 0, 255), true);
        Check.due("byte 0", x.packet(1, 0), 254);
        Check.due("place 4", x.spoil(1, 4, 6), true);
        Check.due("byte 4", x.packet(1, 4), 4);
        Check.due("bits 1", x.spoil(1, 3, 1), true);
        Check.due("byte 3", x.packet(1, 3), 0);
        int last = x.packet(1, 7);
        Check.due("the last place", x.spoil(1, 7, 129), true);
        Check.due("byte 7", x.packet(1, 7), last ^ 129);
        Check.bytes("another packet", x, 2, 2, 2, 0, 2, 2, 3);
    }

    private static void shows() {
        StreamTransport x = three();
        Check.fill(x, 1, 3, 2);
        x.send(1);
        Check.due("how many bytes", x.packet(3, -1), 9);
        Check.due("its sender", x.packet(3, -2), 1);
        Check.due("another's sender", x.packet(2, -2), 0);
        Check.bytes("its bytes", x, 3, 0, 2, 3, 0, 4, 1, 2);
        Check.due("behind its end", x.packet(3, 9), -1);
        Check.due("i -3", x.packet(3, -3), -1);
        Check.due("i least", x.packet(3, Integer.MIN_VALUE), -1);
        Check.due("packet(4, 0)", x.packet(4, 0), -1);
        Check.due("packet(4, -1)", x.packet(4, -1), -1);
        Check.due("packet(-1, -2)", x.packet(-1, -2), -1);
        x.deliver(0);
        Check.due("it moves down", x.packet(2, -2), 1);
    }
}
