/** Acknowledgements, what they make lost, and what is sent again (promise 7, by the Terms). */
final class LossTest {
    public static void main(String[] args) {
        threeNumbersAbove();
        lostRunsAreSentApart();
        furtherRanges();
        lostGoesAheadOfFresh();
        ackedStaysAcked();
        ackOfALostPacketCountsForNothing();
        endIsLost();
        endIsAckedBeforeItsBytes();
        endInTwoPackets();
        ackAloneOvertakes();
        wrongAckCountsForNothing();
        Check.done();
    }

    /** Six packets of end 0, numbers 0 .. 5, each with one byte of stream 0; none arrives. */
    private static StreamTransport sixSent() {
        StreamTransport x = new StreamTransport(15, 31);
        for (int i = 0; i < 6; i++) {
            Check.fill(x, 0, 0, 1);
            x.send(0);
            x.lose(0);
        }
        return x;
    }

    private static void threeNumbersAbove() {
        StreamTransport x = sixSent();
        Check.craft(x, 0, 0, 1, 2, 0, 0);
        Check.due("acked", x.stream(0, 0, 2), 1);
        Check.due("none is three above", x.about(0, 1), 5);
        Check.due("nothing is lost", x.send(0), -1);
        Check.craft(x, 0, 1, 1, 4, 0, 0);
        Check.due("0 and 1 are lost", x.about(0, 1), 2);
        Check.sends("what they bore", x, 0, 6, 2, 0, 0, 4, 1, 2);
        Check.due("3 and 5 wait still", x.send(0), -1);
        Check.craft(x, 0, 2, 1, 6, 0, 0);
        Check.due("3 is lost", x.about(0, 1), 1);
        Check.due("acked", x.stream(0, 0, 2), 4);
        Check.sends("what it bore", x, 0, 7, 2, 0, 3, 2, 4);
    }

    private static void lostRunsAreSentApart() {
        StreamTransport x = sixSent();
        Check.craft(x, 0, 0, 1, 5, 0, 1, 2, 0);
        Check.due("1 and 5 are acked", x.stream(0, 0, 2), 2);
        Check.sends("0", x, 0, 6, 2, 0, 0, 2, 1);
        Check.sends("2, not 3 and 4", x, 0, 7, 2, 0, 2, 2, 3);
        Check.due("nothing more", x.send(0), -1);
    }

    private static void furtherRanges() {
        StreamTransport x = new StreamTransport(15, 31);
        for (int i = 0; i < 13; i++) {
            Check.fill(x, 0, 0, 1);
            x.send(0);
            x.lose(0);
        }
        // Acked are 12, 9 and 8, and 5 to 3.
        Check.craft(x, 0, 0, 1, 12, 0, 2, 1, 1, 1, 2);
        Check.due("acked", x.stream(0, 0, 2), 6);
        Check.due("10 and 11 wait", x.about(0, 1), 2);
        Check.sends("0 to 2", x, 0, 13, 2, 0, 0, 6, 1, 2, 3);
        Check.sends("6 and 7", x, 0, 14, 2, 0, 6, 4, 7, 8);
        Check.due("nothing more", x.send(0), -1);
    }

    private static void lostGoesAheadOfFresh() {
        StreamTransport x = sixSent();
        Check.craft(x, 0, 0, 1, 5, 2, 0);
        Check.fill(x, 0, 0, 1);
        x.finish(0, 0);
        Check.sends("0 to 2", x, 0, 6, 2, 0, 0, 6, 1, 2, 3);
        Check.sends("then what was not sent, with the end", x, 0, 7, 2, 0, 6, 3, 7);
    }

    private static void ackedStaysAcked() {
        StreamTransport x = sixSent();
        Check.craft(x, 0, 0, 1, 0, 0, 0);
        Check.craft(x, 0, 1, 1, 5, 0, 0);
        Check.due("acked", x.stream(0, 0, 2), 2);
        Check.sends("1 and 2 alone", x, 0, 6, 2, 0, 1, 4, 2, 3);
        Check.craft(x, 0, 2, 1, 5, 5, 0);
        Check.due("3 and 4, too; 1 and 2 were lost", x.stream(0, 0, 2), 4);
        Check.due("acks again", Check.craft(x, 0, 3, 1, 5, 5, 0), 0);
        Check.due("as before", x.stream(0, 0, 2), 4);
    }

    private static void ackOfALostPacketCountsForNothing() {
        StreamTransport x = sixSent();
        Check.ticks(x, 6);
        Check.due("b", x.about(0, 5), 1);
        Check.due("0 is lost", x.about(0, 1), 5);
        Check.craft(x, 0, 0, 1, 0, 0, 0);
        Check.due("b stays", x.about(0, 5), 1);
        Check.due("not acked", x.stream(0, 0, 2), 0);
        Check.sends("sent again", x, 0, 6, 2, 0, 0, 2, 1);
        Check.craft(x, 0, 1, 1, 1, 1, 0);
        Check.due("b is 0 again", x.about(0, 5), 0);
        Check.due("acked", x.stream(0, 0, 2), 1);
        // Lost by the timer, 3 can't overtake 0, which is an ACK alone, so that acking 0 still counts.
        StreamTransport y = new StreamTransport(15, 31);
        for (int n = 0; n < 3; n++) {
            Check.craft(y, 0, n, 0);
            y.send(0);
        }
        Check.fill(y, 0, 0, 1);
        y.send(0);
        Check.ticks(y, 6);
        Check.due("b", y.about(0, 5), 1);
        Check.craft(y, 0, 3, 1, 3, 0, 0);
        Check.craft(y, 0, 4, 1, 0, 0, 0);
        Check.due("acks one with ACK alone, that was not lost", y.about(0, 5), 0);
    }

    private static void endIsLost() {
        StreamTransport x = new StreamTransport(15, 31);
        Check.fill(x, 0, 1, 2);
        x.finish(0, 1);
        x.send(0);
        Check.ticks(x, 6);
        Check.sends("bytes and end", x, 0, 1, 2, 1, 0, 5, 1, 2);
        x.finish(0, 2);
        Check.sends("end alone", x, 0, 2, 2, 2, 0, 1);
        Check.craft(x, 0, 0, 1, 1, 0, 0);
        Check.due("acked", x.stream(0, 1, 4), 1);
        Check.ticks(x, 6);
        Check.sends("end alone, lost", x, 0, 3, 2, 2, 0, 1);
        Check.due("not acked", x.stream(0, 2, 4), 0);
    }

    private static void endIsAckedBeforeItsBytes() {
        StreamTransport x = new StreamTransport(15, 31);
        Check.fill(x, 0, 0, 2);
        x.send(0);
        x.finish(0, 0);
        x.send(0);
        Check.craft(x, 0, 0, 1, 1, 0, 0);
        Check.due("the end alone is acked", x.stream(0, 0, 4), 0);
        Check.ticks(x, 6);
        x.lose(0);
        x.lose(0);
        Check.sends("the end goes with the bytes, though it is acked", x, 0, 2, 2, 0, 0, 5, 1, 2);
        Check.ticks(x, 12);
        Check.sends("bytes are lost again", x, 0, 3, 2, 0, 0, 5, 1, 2);
        Check.craft(x, 0, 1, 1, 3, 0, 0);
        Check.due("all acked", x.stream(0, 0, 4), 1);
    }

    private static void endInTwoPackets() {
        StreamTransport x = new StreamTransport(15, 31);
        Check.fill(x, 0, 0, 2);
        x.send(0);
        x.finish(0, 0);
        x.send(0);
        Check.ticks(x, 6);
        Check.due("bytes and end", x.send(0), 9);
        Check.ticks(x, 12);
        Check.due("the packet with the end alone is lost", x.about(0, 1), 1);
        Check.due("send", x.send(0), 7);
        Check.bytes("the end, not acked, is sent again", x, 3, 3, 2, 0, 2, 1);
        Check.craft(x, 0, 0, 1, 2, 0, 0);
        Check.due("acked with the bytes", x.stream(0, 0, 4), 1);
        Check.ticks(x, 6);
        Check.due("acked for ever: a probe", x.send(0), 4);
    }

    private static void ackAloneOvertakes() {
        StreamTransport x = new StreamTransport(15, 31);
        Check.fill(x, 0, 0, 1);
        x.send(0);
        for (int n = 0; n < 3; n++) {
            Check.craft(x, 0, n, 0);
            x.send(0);
        }
        Check.due("waits", x.about(0, 1), 1);
        Check.craft(x, 0, 3, 1, 3, 0, 0);
        Check.due("lost", x.about(0, 1), 0);
        Check.due("its byte", x.send(0), 8);
    }

    private static void wrongAckCountsForNothing() {
        StreamTransport x = sixSent();
        Check.craft(x, 0, 0, 1, 5, 0, 0, 1, 4, 1, 1, 0, 3);
        Check.due("below 0", x.closed(0), 5);
        Check.due("what came before holds", x.stream(0, 0, 2), 1);
        Check.due("0 to 2 are lost", x.about(0, 1), 2);
    }
}
