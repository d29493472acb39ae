/** The edges of what is ACKED and what is LOST. */
final class EdgesOfLossTest {
    public static void main(String[] args) {
        threeNumbersAbove();
        farAbove();
        ackedIsNotLost();
        oneWithAckAloneOvertakes();
        oneWithAckAloneIsLostToo();
        lookedForAfterTheWholeFrame();
        lookedForWithEachFrame();
        lookedForWithAnAckOfNothingNew();
        ackedForEver();
        endIsAckedForEver();
        resetIsAckedForEver();
        lostIsNotAckedLater();
        lostIsNotLostLater();
        ackOfALostOneOvertakesNothing();
        lostBytesAreSentAgain();
        lostEndIsSentAgain();
        lostResetIsSentAgain();
        lostAckIsNotSentAgain();
        lostPingIsNotSentAgain();
        lostLimitIsDueAgain();
        lostLimitThatIsNotTheLatest();
        lostLimitOf64();
        lostLimitOfAResetStream();
        Check.done();
    }

    /** So many packets of end 0, from number 0 on, each with the byte of stream 0 that has its place. */
    private static StreamTransport sent(int n) {
        StreamTransport x = new StreamTransport(15, 31);
        for (int i = 0; i < n; i++) {
            Check.fill(x, 0, 0, 1);
            x.send(0);
            x.lose(0);
        }
        return x;
    }

    /** "A packet sent is LOST when it was not acked and one at least three numbers above it was" */
    private static void threeNumbersAbove() {
        for (int l = 0; l < 8; l++) {
            StreamTransport x = sent(8);
            Check.craft(x, 0, 0, 1, l, 0, 0);
            int lost = Math.max(0, l - 2);
            Check.due("acked " + l + ", neither acked nor lost", x.about(0, 1), 7 - lost);
            if (lost == 0) {
                Check.due("nothing is sent again", x.send(0), -1);
            } else {
                Check.due("what is lost is sent again", x.send(0), 1 + 4 + lost + 2);
                Check.due("how many bytes", x.packet(0, 4), 2 * lost);
            }
        }
    }

    /** "at least three": also far more. */
    private static void farAbove() {
        StreamTransport x = sent(19);
        Check.craft(x, 0, 0, 1, 18, 0, 0);
        Check.due("16 and 17 wait", x.about(0, 1), 2);
    }

    /** "when it was not acked": by the same frame, or before. */
    private static void ackedIsNotLost() {
        StreamTransport x = sent(8);
        Check.craft(x, 0, 0, 1, 1, 0, 0);
        Check.craft(x, 0, 1, 1, 7, 0, 1, 3, 0);
        Check.due("1, 7 and 2 are acked", x.stream(0, 0, 2), 3);
        Check.due("5 and 6 wait", x.about(0, 1), 2);
        Check.sends("0", x, 0, 8, 2, 0, 0, 2, 1);
        Check.sends("3 and 4", x, 0, 9, 2, 0, 3, 4, 4, 5);
        Check.due("nothing more", x.send(0), -1);
    }

    /** "(also one with ACK alone": acked three above, it makes the lower one lost. */
    private static void oneWithAckAloneOvertakes() {
        StreamTransport x = sent(1);
        for (int n = 0; n < 3; n++) {
            Check.craft(x, 0, n, 0);
            x.send(0);
            x.lose(0);
        }
        Check.craft(x, 0, 3, 1, 2, 0, 0);
        Check.due("two above", x.about(0, 1), 1);
        Check.craft(x, 0, 4, 1, 3, 0, 0);
        Check.due("three above", x.about(0, 1), 0);
        Check.sends("the byte", x, 0, 4, 2, 0, 0, 2, 1);
    }

    /** "A packet sent is LOST": one with ACK alone, too, so that its acknowledgement counts for nothing later. */
    private static void oneWithAckAloneIsLostToo() {
        StreamTransport x = new StreamTransport(15, 31);
        Check.craft(x, 0, 0, 0);
        Check.due("an ACK alone, packet 0", x.send(0), 7);
        for (int i = 0; i < 4; i++) {
            Check.fill(x, 0, 0, 1);
            x.send(0);
        }
        Check.craft(x, 0, 1, 1, 3, 0, 0);
        Check.ticks(x, 6);
        Check.due("b", x.about(0, 5), 1);
        Check.craft(x, 0, 2, 1, 0, 0, 0);
        Check.due("0 was lost, b stays", x.about(0, 5), 1);
        Check.craft(x, 0, 3, 1, 4, 0, 0);
        Check.due("4 was not, b is 0", x.about(0, 5), 0);
    }

    /** "this is looked for with each ACK frame, after it was taken": a lower range of the same frame comes in time. */
    private static void lookedForAfterTheWholeFrame() {
        StreamTransport x = sent(8);
        Check.craft(x, 0, 0, 1, 7, 0, 2, 2, 0, 0, 1);
        Check.due("7, 3, 1 and 0 are acked", x.stream(0, 0, 2), 4);
        Check.due("5 and 6 wait", x.about(0, 1), 2);
        Check.sends("2", x, 0, 8, 2, 0, 2, 2, 3);
        Check.sends("4", x, 0, 9, 2, 0, 4, 2, 5);
    }

    /** "with each ACK frame": a lower packet in the next frame of the same packet comes too late. */
    private static void lookedForWithEachFrame() {
        StreamTransport x = sent(4);
        Check.craft(x, 0, 0, 1, 3, 0, 0, 1, 0, 0, 0);
        Check.due("3 alone is acked", x.stream(0, 0, 2), 1);
        StreamTransport y = sent(4);
        Check.craft(y, 0, 0, 1, 0, 0, 0, 1, 3, 0, 0);
        Check.due("both are acked", y.stream(0, 0, 2), 2);
    }

    /** "this is looked for with each ACK frame": one that acks nothing new makes nothing more lost. */
    private static void lookedForWithAnAckOfNothingNew() {
        StreamTransport x = sent(5);
        Check.craft(x, 0, 0, 1, 4, 0, 0);
        Check.due("2 and 3 wait", x.about(0, 1), 2);
        Check.due("0 and 1 again", x.send(0), 9);
        Check.craft(x, 0, 1, 1, 4, 0, 0);
        Check.due("2, 3 and 5 wait", x.about(0, 1), 3);
        Check.due("nothing more is lost", x.send(0), -1);
        Check.craft(x, 0, 2, 1, 5, 0, 0);
        Check.due("5 is three above 2", x.about(0, 1), 1);
    }

    /** "What a packet that is ACKED bore is acked for ever: bytes of streams" */
    private static void ackedForEver() {
        StreamTransport x = sent(2);
        Check.craft(x, 0, 0, 1, 0, 0, 0);
        Check.ticks(x, 6);
        Check.sends("1 alone is lost", x, 0, 2, 2, 0, 1, 2, 2);
        Check.craft(x, 0, 1, 1, 0, 0, 0);
        Check.due("acked", x.stream(0, 0, 2), 1);
        x.reset(0, 0);
        Check.due("also when it is reset", x.stream(0, 0, 2), 1);
        Check.craft(x, 0, 2, 1, 2, 0, 0);
        Check.due("and what comes then", x.stream(0, 0, 2), 2);
    }

    /** "acked for ever: .. ends": one that goes with bytes again, and is lost there, stays acked. */
    private static void endIsAckedForEver() {
        StreamTransport x = sent(1);
        x.finish(0, 0);
        Check.sends("the end, packet 1", x, 0, 1, 2, 0, 1, 1);
        Check.craft(x, 0, 0, 1, 1, 0, 0);
        Check.due("its byte is not acked", x.stream(0, 0, 4), 0);
        Check.ticks(x, 6);
        Check.sends("byte and end, packet 2", x, 0, 2, 2, 0, 0, 3, 1);
        x.reset(0, 1);
        Check.sends("packet 3", x, 0, 3, 5, 1, 0);
        Check.ticks(x, 12);
        Check.due("packet 2 is lost", x.about(0, 1), 1);
        Check.sends("byte and end, packet 4", x, 0, 4, 2, 0, 0, 3, 1);
        Check.craft(x, 0, 1, 1, 4, 0, 0);
        Check.due("all acked", x.stream(0, 0, 4), 1);
        Check.due("nothing more", x.send(0), -1);
    }

    /** "acked for ever: .. resets of streams" */
    private static void resetIsAckedForEver() {
        StreamTransport x = new StreamTransport(0, 0);
        x.reset(0, 2);
        x.send(0);
        Check.craft(x, 0, 0, 1, 0, 0, 0);
        Check.due("acked", x.stream(0, 2, 4), 1);
        Check.ticks(x, 48);
        Check.due("nothing is lost", x.send(0), -1);
        Check.craft(x, 0, 1, 1, 0, 0, 0);
        Check.due("acked", x.stream(0, 2, 4), 1);
    }

    /** "A packet that is lost is neither acked .. later on; an acknowledgement of it counts for nothing." */
    private static void lostIsNotAckedLater() {
        StreamTransport x = sent(4);
        Check.craft(x, 0, 0, 1, 3, 0, 0);
        Check.craft(x, 0, 1, 1, 0, 0, 0);
        Check.due("0 was lost", x.stream(0, 0, 2), 1);
        Check.sends("it is sent again", x, 0, 4, 2, 0, 0, 2, 1);
        Check.craft(x, 0, 2, 1, 0, 0, 0);
        Check.due("0 counts for nothing", x.stream(0, 0, 2), 1);
        Check.craft(x, 0, 3, 1, 4, 0, 0);
        Check.due("4 counts", x.stream(0, 0, 2), 2);
    }

    /** "nor lost later on": its bytes, sent again, are not lost with it a second time. */
    private static void lostIsNotLostLater() {
        StreamTransport x = sent(4);
        Check.craft(x, 0, 0, 1, 3, 0, 0);
        Check.due("0 again, as 4", x.send(0), 8);
        Check.craft(x, 0, 1, 1, 3, 0, 0);
        Check.due("4 waits", x.send(0), -1);
        Check.due("1, 2 and 4 wait", x.about(0, 1), 3);
    }

    /** "an acknowledgement of it counts for nothing": it makes no lower one lost, and b stays. */
    private static void ackOfALostOneOvertakesNothing() {
        StreamTransport x = new StreamTransport(15, 31);
        for (int n = 0; n < 3; n++) {
            Check.craft(x, 0, n, 0);
            x.send(0);
        }
        Check.fill(x, 0, 0, 1);
        x.send(0);
        Check.ticks(x, 6);
        Check.due("3 is lost", x.about(0, 1), 0);
        Check.craft(x, 0, 3, 1, 3, 0, 0);
        Check.due("b", x.about(0, 5), 1);
        Check.craft(x, 0, 4, 1, 0, 0, 0);
        Check.due("0 was not lost by 3", x.about(0, 5), 0);
    }

    /** "what it bore and is not acked is LOST then, to be sent again": bytes of several streams. */
    private static void lostBytesAreSentAgain() {
        StreamTransport x = new StreamTransport(0, 0);
        for (int s = 0; s < 4; s++) {
            Check.fill(x, 0, s, 1);
        }
        int[] frames = {2, 0, 0, 2, 1, 2, 1, 0, 2, 1, 2, 2, 0, 2, 1, 2, 3, 0, 2, 1};
        int[] want = new int[1 + frames.length];
        System.arraycopy(frames, 0, want, 1, frames.length);
        Check.sends("first", x, 0, want);
        Check.due("once", x.send(0), -1);
        Check.ticks(x, 6);
        want[0] = 1;
        Check.sends("again", x, 0, want);
        Check.due("once", x.send(0), -1);
        Check.due("sent", x.stream(0, 3, 1), 1);
    }

    /** "what it bore .. is LOST then": an end that another packet bears, too, is lost though that one is not. */
    private static void lostEndIsSentAgain() {
        StreamTransport x = new StreamTransport(15, 31);
        x.finish(0, 1);
        Check.sends("an end", x, 0, 0, 2, 1, 0, 1);
        Check.ticks(x, 6);
        Check.sends("the end again", x, 0, 1, 2, 1, 0, 1);
        StreamTransport y = sent(1);
        y.finish(0, 0);
        Check.sends("an end, packet 1", y, 0, 1, 2, 0, 1, 1);
        Check.ticks(y, 6);
        Check.sends("byte and end, packet 2", y, 0, 2, 2, 0, 0, 3, 1);
        Check.ticks(y, 12);
        Check.due("packet 1 is lost", y.about(0, 1), 1);
        Check.sends("the end again", y, 0, 3, 2, 0, 1, 1);
    }

    /** "what it bore .. is LOST then": a reset. */
    private static void lostResetIsSentAgain() {
        StreamTransport x = sent(1);
        x.reset(0, 0);
        Check.sends("a reset, packet 1", x, 0, 1, 5, 0, 1);
        Check.due("once", x.send(0), -1);
        for (int i = 0; i < 3; i++) {
            Check.fill(x, 0, 1, 1);
            x.send(0);
        }
        Check.craft(x, 0, 0, 1, 4, 0, 0);
        Check.due("acked, not the reset", x.stream(0, 0, 4), 0);
        Check.sends("the reset again, and no byte of the stream", x, 0, 5, 5, 0, 1);
    }

    /** "bytes of streams, ends and resets .. (a limit ..": an ACK that is lost is not due again. */
    private static void lostAckIsNotSentAgain() {
        StreamTransport x = new StreamTransport(15, 31);
        Check.craft(x, 0, 0, 0);
        x.send(0);
        for (int i = 0; i < 3; i++) {
            Check.fill(x, 0, 0, 1);
            x.send(0);
        }
        Check.craft(x, 0, 1, 1, 3, 0, 0);
        Check.due("nothing to send", x.send(0), -1);
    }

    /** The same: a PING that is lost is not sent again, but for the probe that the timer makes due. */
    private static void lostPingIsNotSentAgain() {
        StreamTransport x = sent(4);
        Check.ticks(x, 6);
        x.reset(0, 0);
        Check.sends("a reset, packet 4", x, 0, 4, 5, 0, 4);
        Check.ticks(x, 12);
        Check.sends("a probe, packet 5", x, 0, 5, 0);
        for (int i = 0; i < 3; i++) {
            Check.fill(x, 0, 1, 1);
            x.send(0);
        }
        Check.craft(x, 0, 0, 1, 8, 0, 1, 2, 0);
        Check.due("5 is lost, 6 and 7 wait", x.about(0, 1), 2);
        Check.due("nothing is sent again", x.send(0), -1);
    }

    /** End 1 read four of eight bytes of stream 0 (SW 8, CW 8) and sent limits of 12, as packet 0. */
    private static StreamTransport withLimitsSent() {
        StreamTransport x = new StreamTransport(4, 0);
        Check.craft(x, 1, 0, 2, 0, 0, 16, 1, 2, 3, 4, 5, 6, 7, 8);
        Check.drain(x, 1, 0, 4);
        Check.sends("limits", x, 1, 0, 1, 0, 0, 0, 3, 12, 4, 0, 12);
        Check.due("once", x.send(1), -1);
        return x;
    }

    /** "a limit, when it is the one given latest: it is DUE again, as it is reckoned then" */
    private static void lostLimitIsDueAgain() {
        StreamTransport x = withLimitsSent();
        Check.ticks(x, 6);
        Check.sends("the same", x, 1, 1, 3, 12, 4, 0, 12);
        Check.due("once", x.send(1), -1);
        StreamTransport y = withLimitsSent();
        Check.drain(y, 1, 0, 3);
        Check.due("three more: not due", y.send(1), -1);
        Check.ticks(y, 6);
        Check.due("given before it is sent", y.stream(1, 0, 8), 12);
        Check.sends("as it is reckoned then", y, 1, 1, 3, 15, 4, 0, 15);
        Check.due("given", y.stream(1, 0, 8), 15);
        Check.due("given for all", y.about(1, 3), 15);
    }

    /** "when it is the one given latest": one that was given before it is not due again. */
    private static void lostLimitThatIsNotTheLatest() {
        StreamTransport x = withLimitsSent();
        Check.drain(x, 1, 0, 4);
        Check.sends("later limits", x, 1, 1, 3, 16, 4, 0, 16);
        Check.ticks(x, 6);
        Check.due("packet 0 is lost", x.about(1, 1), 1);
        Check.sends("a probe alone", x, 1, 2, 0);
        Check.ticks(x, 12);
        Check.sends("packet 1 is lost: the latest", x, 1, 3, 3, 16, 4, 0, 16);
    }

    /** "a limit .. DUE again": 64 and 256 are none but that. */
    private static void lostLimitOf64() {
        StreamTransport x = new StreamTransport(15, 31);
        for (int number = 0; number < 5; number++) {
            int at = 9 * number;
            Check.craft(x, 1, number, 2, 0, at, 18, at + 1, at + 2, at + 3, at + 4, at + 5, at + 6, at + 7, at + 8, at + 9);
            Check.drain(x, 1, 0, 9);
            x.send(1);
            x.lose(0);
        }
        Check.due("given", x.stream(1, 0, 8), 64);
        Check.craft(x, 1, 5, 1, 3, 3, 0);
        Check.ticks(x, 6);
        Check.due("the packet with 64 is lost", x.about(1, 1), 0);
        Check.sends("64 again", x, 1, 5, 4, 0, 64, 64);
    }

    /** "a limit .. DUE again": also of a stream that was reset since. */
    private static void lostLimitOfAResetStream() {
        StreamTransport x = withLimitsSent();
        Check.craft(x, 1, 1, 5, 0, 8);
        Check.sends("the reset counts for all", x, 1, 1, 1, 1, 1, 0, 3, 16);
        Check.ticks(x, 6);
        Check.sends("the limit of the stream again, not that for all", x, 1, 2, 4, 0, 12);
    }
}
