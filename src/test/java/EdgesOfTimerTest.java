/** The edges of the TIMER, the probe and b. */
final class EdgesOfTimerTest {
    public static void main(String[] args) {
        everyFrameButAckStartsIt();
        ackAloneDoesNotStartIt();
        ackAloneDoesNotStartItAnew();
        closeDoesNotStartIt();
        theSixthTick();
        theSixthBehindTheLatest();
        sixTimesTwoToTheB();
        laterThanTheSixth();
        someMustWait();
        notWhenTheEndIsClosed();
        theLeastIsLost();
        theLeastThatWaitsIsLost();
        probeIsDue();
        probeStaysDue();
        probeIsDueNoMore();
        bIsAtMost3();
        countedAnew();
        ackMakesB0();
        ackOfAnAckMakesB0();
        ackOfNothingNewLeavesB();
        eachEndHasItsOwn();
        packetThatIsLostAtOnceStartsIt();
        Check.done();
    }

    private static void look(String what, StreamTransport x, int end, int b, int waiting) {
        Check.due(what + ", b", x.about(end, 5), b);
        Check.due(what + ", neither acked nor lost", x.about(end, 1), waiting);
    }

    private static void sendByte(StreamTransport x) {
        Check.fill(x, 0, 0, 1);
        x.send(0);
        x.lose(0);
    }

    /** After 5 ticks nothing is lost, in the 6th a packet of end 0 is. */
    private static void firesInTheSixth(String what, StreamTransport x) {
        int b = x.about(0, 5);
        int waiting = x.about(0, 1);
        Check.ticks(x, 5);
        look(what + ", fifth tick", x, 0, b, waiting);
        x.tick();
        look(what + ", sixth tick", x, 0, b + 1, waiting - 1);
    }

    /** "A packet with more than ACK .. starts the TIMER" */
    private static void everyFrameButAckStartsIt() {
        StreamTransport x = new StreamTransport(0, 0);
        Check.fill(x, 0, 0, 1);
        Check.ticks(x, 9);
        x.send(0);
        firesInTheSixth("STREAM", x);
        x = new StreamTransport(0, 0);
        x.finish(0, 0);
        Check.ticks(x, 9);
        x.send(0);
        firesInTheSixth("an end", x);
        x = new StreamTransport(0, 0);
        x.reset(0, 0);
        Check.ticks(x, 9);
        x.send(0);
        firesInTheSixth("RESET", x);
        x = new StreamTransport(0, 31);
        Check.craft(x, 0, 0, 2, 0, 0, 4, 1, 2);
        Check.drain(x, 0, 0, 2);
        Check.ticks(x, 9);
        Check.due("ACK and LIMIT", x.send(0), 10);
        firesInTheSixth("LIMIT", x);
        x = new StreamTransport(0, 0);
        Check.craft(x, 0, 0, 5, 0, 4);
        Check.ticks(x, 9);
        Check.due("ACK and LIMIT-ALL", x.send(0), 9);
        firesInTheSixth("LIMIT-ALL", x);
    }

    /** The same: a packet with ACK alone does not. */
    private static void ackAloneDoesNotStartIt() {
        StreamTransport x = new StreamTransport(0, 0);
        Check.craft(x, 0, 0, 0);
        Check.due("ACK", x.send(0), 7);
        Check.ticks(x, 100);
        look("nothing waits", x, 0, 0, 0);
        Check.due("no probe", x.send(0), -1);
    }

    /** The same: nor is the time counted anew from it. */
    private static void ackAloneDoesNotStartItAnew() {
        StreamTransport x = new StreamTransport(0, 0);
        sendByte(x);
        Check.ticks(x, 5);
        Check.craft(x, 0, 0, 0);
        Check.due("ACK", x.send(0), 7);
        x.tick();
        look("sixth tick behind the byte", x, 0, 1, 0);
    }

    /** "(and not with CLOSE)" */
    private static void closeDoesNotStartIt() {
        StreamTransport x = new StreamTransport(0, 0);
        x.close(0, 1);
        Check.due("CLOSE", x.send(0), 5);
        look("it is not waited for", x, 0, 0, 0);
        Check.ticks(x, 100);
        look("nor lost", x, 0, 0, 0);
        Check.due("nor sent again", x.send(0), -1);
    }

    /** "in the first tick that is the 6 * 2^b-th behind": from any time on. */
    private static void theSixthTick() {
        for (int before = 0; before < 15; before++) {
            StreamTransport x = new StreamTransport(0, 0);
            Check.ticks(x, before);
            sendByte(x);
            firesInTheSixth("sent behind " + before + " ticks", x);
        }
    }

    /** "behind the latest such packet" */
    private static void theSixthBehindTheLatest() {
        StreamTransport x = new StreamTransport(0, 0);
        sendByte(x);
        Check.ticks(x, 5);
        sendByte(x);
        Check.ticks(x, 5);
        sendByte(x);
        firesInTheSixth("behind the third", x);
    }

    /** "6 * 2^b-th": 6, 12, 24, 48. */
    private static void sixTimesTwoToTheB() {
        StreamTransport x = new StreamTransport(15, 31);
        for (int i = 0; i < 4; i++) {
            sendByte(x);
        }
        for (int b = 0; b < 4; b++) {
            Check.ticks(x, (6 << b) - 1);
            look("one before", x, 0, b, 4 - b);
            x.tick();
            look("the tick", x, 0, Math.min(3, b + 1), 3 - b);
        }
    }

    /** "or a later one": when an ACK makes b 0, the sixth may be past. */
    private static void laterThanTheSixth() {
        for (int past = 4; past <= 11; past++) {
            StreamTransport x = new StreamTransport(15, 31);
            for (int i = 0; i < 3; i++) {
                sendByte(x);
            }
            Check.ticks(x, 6);
            Check.ticks(x, past);
            look("not yet", x, 0, 1, 2);
            Check.craft(x, 0, 0, 1, 1, 0, 0);
            look("acked, and not before the tick", x, 0, 0, 1);
            x.tick();
            boolean isDue = past + 1 >= 6;
            look("the next tick, behind " + past, x, 0, isDue ? 1 : 0, isDue ? 0 : 1);
        }
    }

    /** "in which some such packet is neither acked nor lost" */
    private static void someMustWait() {
        StreamTransport x = new StreamTransport(0, 0);
        sendByte(x);
        Check.craft(x, 0, 0, 1, 0, 0, 0);
        Check.ticks(x, 50);
        look("acked", x, 0, 0, 0);
        Check.due("no probe", x.send(0), -1);
        x = new StreamTransport(0, 0);
        sendByte(x);
        Check.ticks(x, 6);
        Check.ticks(x, 50);
        look("lost: not lost again", x, 0, 1, 0);
    }

    /** "and the end is not closed": by the call, by a wrong frame, by a CLOSE. */
    private static void notWhenTheEndIsClosed() {
        int[][] frames = {{7}, {6, 3}};
        for (int[] frame : frames) {
            StreamTransport x = new StreamTransport(0, 0);
            sendByte(x);
            Check.ticks(x, 5);
            Check.craft(x, 0, 0, frame);
            Check.ticks(x, 50);
            look("closed", x, 0, 0, 1);
        }
        StreamTransport x = new StreamTransport(0, 0);
        sendByte(x);
        Check.ticks(x, 5);
        x.close(0, 1);
        x.tick();
        look("closed by the call", x, 0, 0, 1);
        Check.due("the time goes on", x.tick(), 7);
    }

    /** "the least such is lost" */
    private static void theLeastIsLost() {
        StreamTransport x = new StreamTransport(0, 0);
        for (int i = 0; i < 3; i++) {
            sendByte(x);
        }
        Check.ticks(x, 6);
        Check.sends("the first byte alone", x, 0, 3, 2, 0, 0, 2, 1);
    }

    /** "the least such": one with ACK alone is none, nor is one that is acked or lost. */
    private static void theLeastThatWaitsIsLost() {
        StreamTransport x = new StreamTransport(0, 0);
        Check.craft(x, 0, 0, 0);
        Check.due("ACK, packet 0", x.send(0), 7);
        x.lose(0);
        for (int i = 0; i < 4; i++) {
            sendByte(x);
        }
        Check.craft(x, 0, 1, 1, 1, 0, 0);
        Check.ticks(x, 6);
        Check.sends("packet 2, the second byte", x, 0, 5, 2, 0, 1, 2, 2);
        Check.ticks(x, 12);
        Check.sends("packet 3, the third byte", x, 0, 6, 2, 0, 2, 2, 3);
        Check.craft(x, 0, 2, 1, 0, 0, 0);
        Check.due("packet 0 was not lost", x.about(0, 5), 0);
    }

    /** End 0 has one byte of a stream sent that is then reset, so that nothing is there to be sent again. */
    private static StreamTransport withProbe() {
        StreamTransport x = new StreamTransport(0, 0);
        sendByte(x);
        x.reset(0, 0);
        x.send(0);
        x.lose(0);
        Check.ticks(x, 6);
        return x;
    }

    /** "a probe is due" */
    private static void probeIsDue() {
        StreamTransport x = withProbe();
        Check.sends("PING", x, 0, 2, 0);
        look("it is waited for", x, 0, 1, 2);
    }

    /** "a probe is due": until a packet with more than ACK is sent, whatever is acked. */
    private static void probeStaysDue() {
        StreamTransport x = withProbe();
        Check.craft(x, 0, 0, 1, 1, 0, 0);
        look("all is acked or lost", x, 0, 0, 0);
        Check.ticks(x, 20);
        Check.sends("PING", x, 0, 2, 0);
        Check.due("once", x.send(0), -1);
    }

    /** "A packet with more than ACK .. and no probe is due any more" */
    private static void probeIsDueNoMore() {
        StreamTransport x = withProbe();
        Check.fill(x, 0, 1, 1);
        Check.due("a byte", x.send(0), 8);
        Check.due("no probe", x.send(0), -1);
        Check.craft(x, 0, 0, 0);
        Check.due("ACK alone", x.send(0), 7);
    }

    /** "b (0 at first, at most 3)" */
    private static void bIsAtMost3() {
        StreamTransport x = new StreamTransport(15, 31);
        for (int i = 0; i < 7; i++) {
            sendByte(x);
        }
        Check.due("at first", x.about(0, 5), 0);
        Check.ticks(x, 6 + 12 + 24 + 48);
        look("four times", x, 0, 3, 3);
        Check.ticks(x, 47);
        look("one before", x, 0, 3, 3);
        x.tick();
        look("48 again", x, 0, 3, 2);
        Check.ticks(x, 48);
        look("and again", x, 0, 3, 1);
    }

    /** "the time is counted anew, as if such a packet were sent in that tick" */
    private static void countedAnew() {
        StreamTransport x = new StreamTransport(15, 31);
        for (int i = 0; i < 4; i++) {
            sendByte(x);
        }
        Check.ticks(x, 6);
        Check.craft(x, 0, 0, 1, 1, 0, 0);
        look("b is 0", x, 0, 0, 2);
        Check.ticks(x, 5);
        look("five behind that tick", x, 0, 0, 2);
        x.tick();
        look("six behind that tick", x, 0, 1, 1);
    }

    /** "An ACK that acks a packet neither acked nor lost before makes b 0" */
    private static void ackMakesB0() {
        StreamTransport x = new StreamTransport(15, 31);
        for (int i = 0; i < 4; i++) {
            sendByte(x);
        }
        Check.ticks(x, 6 + 12 + 24);
        look("thrice", x, 0, 3, 1);
        Check.craft(x, 0, 0, 1, 3, 0, 0);
        look("acked", x, 0, 0, 0);
    }

    /** "(one with ACK alone, too)" */
    private static void ackOfAnAckMakesB0() {
        StreamTransport x = new StreamTransport(15, 31);
        Check.craft(x, 0, 0, 0);
        x.send(0);
        sendByte(x);
        Check.ticks(x, 6);
        look("once", x, 0, 1, 0);
        Check.craft(x, 0, 1, 1, 0, 0, 0);
        look("packet 0 had ACK alone", x, 0, 0, 0);
    }

    /** "neither acked nor lost before": an ACK of others leaves b. */
    private static void ackOfNothingNewLeavesB() {
        StreamTransport x = new StreamTransport(15, 31);
        for (int i = 0; i < 3; i++) {
            sendByte(x);
        }
        Check.craft(x, 0, 0, 1, 0, 0, 0);
        Check.ticks(x, 6);
        look("packet 1 is lost", x, 0, 1, 1);
        Check.craft(x, 0, 1, 1, 0, 0, 0);
        look("acked before", x, 0, 1, 1);
        Check.craft(x, 0, 2, 1, 1, 1, 0);
        look("acked before, and lost before", x, 0, 1, 1);
        Check.craft(x, 0, 3, 1, 2, 2, 0);
        look("one of three is new", x, 0, 0, 0);
    }

    /** The TIMER of an end has nothing to do with that of the other one. */
    private static void eachEndHasItsOwn() {
        StreamTransport x = new StreamTransport(0, 0);
        sendByte(x);
        Check.ticks(x, 2);
        Check.fill(x, 1, 0, 1);
        x.send(1);
        Check.ticks(x, 4);
        look("end 0 in the sixth", x, 0, 1, 0);
        look("end 1 in its fourth", x, 1, 0, 1);
        Check.ticks(x, 2);
        look("end 1 in its sixth", x, 1, 1, 0);
        StreamTransport y = new StreamTransport(0, 0);
        sendByte(y);
        Check.fill(y, 1, 0, 1);
        y.send(1);
        Check.ticks(y, 6);
        look("end 0", y, 0, 1, 0);
        look("end 1 in the same tick", y, 1, 1, 0);
    }

    /** A packet that is lost because 16 are under way was sent, too. */
    private static void packetThatIsLostAtOnceStartsIt() {
        StreamTransport x = new StreamTransport(0, 0);
        Check.fill(x, 1, 0, 1);
        x.send(1);
        for (int i = 0; i < 15; i++) {
            x.copy(0);
        }
        Check.ticks(x, 3);
        Check.fill(x, 0, 0, 1);
        Check.due("lost at once", x.send(0), 8);
        Check.due("packets", x.packets(), 16);
        firesInTheSixth("lost at once", x);
    }
}
