import java.util.Arrays;

/** The edges that the paragraph on SENDING names. */
final class EdgesOfSendingTest {
    public static void main(String[] args) {
        closeByTheCall();
        closeByAWrongFrame();
        closeThatCame();
        closeOnce();
        justClose();
        nothingAtAll();
        ackOfOneToFourRanges();
        ackIsDueNoMore();
        limitsInOrder();
        resetOnce();
        resetsInOrder();
        pingAlone();
        pingBehindAnAck();
        noPingWithOthers();
        noPingWithoutAProbe();
        upToTwelveBytes();
        upToTwelveLostBytes();
        lostBytesUpToThe64th();
        leastLostPlaceFirst();
        lostOnesFirst();
        runsOfTheSameSort();
        belowTheLimitOfTheStream();
        sumNotAboveTheLimitForAll();
        resetStreamsAreInTheSum();
        lostOnesWhateverTheLimitsAre();
        asManyAsThereIsRoomFor();
        fewerThanOneByteForAnEndAlone();
        noEndAloneBeforeItsBytes();
        endWithTheLastByte();
        endWithTheLastLostByte();
        endAloneOnce();
        endAloneBehindTheLimit();
        noEndAloneWhileBytesAreLost();
        nothingOfAResetStream();
        oneFrameForEachStream();
        fullPackets();
        roomForAReset();
        Check.done();
    }

    /** "closed .. by the call, and no CLOSE was sent yet: a packet with just CLOSE" */
    private static void closeByTheCall() {
        for (int code = 0; code < 64; code++) {
            StreamTransport x = new StreamTransport(0, 0);
            x.close(0, code);
            Check.sends("code " + code, x, 0, 0, 6, code);
            Check.due("once", x.send(0), -1);
        }
    }

    /** "when the connection is closed by a wrong frame" */
    private static void closeByAWrongFrame() {
        int[][] wrong = {{7}, {4, 4, 0}, {2, 0, 5, 0}, {2, 0, 1, 0, 2, 0, 0, 1}, {1, 0, 0, 0}};
        for (int code = 1; code <= 5; code++) {
            StreamTransport x = new StreamTransport(0, 0);
            Check.craft(x, 1, 0, wrong[code - 1]);
            Check.sends("code " + code, x, 1, 0, 6, code);
            Check.due("once", x.send(1), -1);
        }
    }

    /** "none when it was closed by a CLOSE that came": whatever was due, and behind other frames, too. */
    private static void closeThatCame() {
        StreamTransport x = new StreamTransport(0, 0);
        Check.fill(x, 1, 0, 4);
        Check.craft(x, 1, 0, 0, 2, 0, 0, 2, 1, 6, 3);
        Check.due("closed", x.closed(1), 3);
        Check.due("none", x.send(1), -1);
        Check.due("close is refused", x.close(1, 5), false);
        Check.due("and still none", x.send(1), -1);
        Check.due("no number was used up", x.about(1, 0), 0);
    }

    /** "(once": also when it is lost, or 16 are under way. */
    private static void closeOnce() {
        StreamTransport x = new StreamTransport(0, 0);
        Check.fill(x, 0, 0, 1);
        x.send(0);
        for (int i = 0; i < 15; i++) {
            x.copy(0);
        }
        x.close(1, 4);
        Check.due("lost at once", x.send(1), 5);
        Check.due("packets", x.packets(), 16);
        Check.ticks(x, 60);
        x.lose(0);
        Check.due("once", x.send(1), -1);
    }

    /** "a packet with just CLOSE": the rest is never sent. */
    private static void justClose() {
        StreamTransport x = new StreamTransport(0, 0);
        Check.fill(x, 1, 0, 4);
        x.finish(1, 1);
        x.reset(1, 2);
        Check.craft(x, 1, 0, 2, 0, 0, 8, 1, 2, 3, 4);
        Check.drain(x, 1, 0, 4);
        x.close(1, 9);
        Check.sends("just CLOSE", x, 1, 0, 6, 9);
        Check.due("nothing more", x.send(1), -1);
        Check.due("nothing was sent", x.stream(1, 0, 1), 0);
        Check.due("nothing was given", x.about(1, 3), 8);
    }

    /** "SENDING makes a packet, if there is anything", "A packet with none of these is not made." */
    private static void nothingAtAll() {
        StreamTransport x = new StreamTransport(0, 0);
        Check.due("a new object", x.send(0), -1);
        Check.fill(x, 0, 0, 4);
        Check.due("something", x.send(0), 11);
        Check.due("all was sent", x.send(0), -1);
        Check.fill(x, 0, 0, 1);
        Check.due("the limit holds", x.send(0), -1);
        Check.due("the number", x.about(0, 0), 1);
        Check.due("packets", x.packets(), 1);
    }

    /** "ACK, when one is due (with the three highest ranges of the numbers processed" */
    private static void ackOfOneToFourRanges() {
        StreamTransport x = new StreamTransport(0, 0);
        Check.craft(x, 0, 0, 0);
        Check.sends("one range of one", x, 0, 0, 1, 0, 0, 0);
        Check.craft(x, 0, 2, 0);
        Check.sends("two", x, 0, 1, 1, 2, 0, 1, 0, 0);
        Check.craft(x, 0, 5, 0);
        Check.sends("three", x, 0, 2, 1, 5, 0, 2, 1, 0, 0, 0);
        Check.craft(x, 0, 7, 0);
        Check.sends("the highest three of four", x, 0, 3, 1, 7, 0, 2, 0, 0, 1, 0);
        Check.craft(x, 0, 1, 0);
        Check.sends("what is below them is not told", x, 0, 4, 1, 7, 0, 2, 0, 0, 1, 2);
        Check.craft(x, 0, 6, 0);
        Check.sends("two grow together", x, 0, 5, 1, 7, 2, 1, 1, 2);
        Check.craft(x, 0, 3, 0);
        Check.craft(x, 0, 4, 0);
        Check.sends("all in one range", x, 0, 6, 1, 7, 7, 0);
    }

    /** "it is due no more" */
    private static void ackIsDueNoMore() {
        StreamTransport x = new StreamTransport(0, 0);
        Check.craft(x, 0, 0, 0);
        Check.craft(x, 0, 1, 0);
        Check.fill(x, 0, 0, 1);
        Check.sends("one for both", x, 0, 0, 1, 1, 1, 0, 2, 0, 0, 2, 1);
        Check.fill(x, 0, 0, 1);
        Check.sends("none in the next", x, 0, 1, 2, 0, 1, 2, 2);
        Check.craft(x, 0, 2, 0);
        Check.sends("due again", x, 0, 2, 1, 2, 2, 0);
    }

    /** "LIMIT-ALL when due; for each stream LIMIT when due" */
    private static void limitsInOrder() {
        StreamTransport x = new StreamTransport(0, 0);
        Check.craft(x, 0, 0, 2, 3, 0, 4, 1, 2, 2, 0, 0, 4, 1, 2, 2, 1, 0, 2, 1);
        Check.drain(x, 0, 3, 2);
        Check.drain(x, 0, 1, 1);
        Check.drain(x, 0, 0, 2);
        Check.sends("for all, 0 and 3", x, 0, 0, 1, 0, 0, 0, 3, 13, 4, 0, 6, 4, 3, 6);
        Check.due("due no more", x.send(0), -1);
    }

    /** "for each stream RESET when it was not sent yet or is lost" */
    private static void resetOnce() {
        StreamTransport x = new StreamTransport(0, 0);
        x.reset(0, 1);
        Check.sends("not sent yet", x, 0, 0, 5, 1, 0);
        Check.due("sent", x.send(0), -1);
        Check.ticks(x, 5);
        Check.due("not lost yet", x.send(0), -1);
        x.tick();
        Check.sends("lost", x, 0, 1, 5, 1, 0);
        Check.craft(x, 0, 0, 1, 1, 0, 0);
        Check.ticks(x, 60);
        Check.due("acked", x.send(0), -1);
    }

    /** "for each stream RESET": in the order of the streams, before all STREAM frames. */
    private static void resetsInOrder() {
        StreamTransport x = new StreamTransport(0, 0);
        Check.fill(x, 0, 0, 1);
        Check.fill(x, 0, 2, 1);
        x.reset(0, 3);
        x.reset(0, 1);
        Check.sends("1, 3, then 0 and 2", x, 0, 0, 5, 1, 0, 5, 3, 0, 2, 0, 0, 2, 1, 2, 2, 0, 2, 1);
    }

    /** End 0 has reset stream 0, whose one byte is lost by the timer, so that nothing but a probe is due. */
    private static StreamTransport withProbe() {
        StreamTransport x = new StreamTransport(0, 0);
        Check.fill(x, 0, 0, 1);
        x.send(0);
        x.reset(0, 0);
        x.send(0);
        x.lose(0);
        x.lose(0);
        Check.ticks(x, 6);
        Check.due("b", x.about(0, 5), 1);
        return x;
    }

    /** "PING when a PROBE is due and nothing but ACK stands there and no STREAM follows" */
    private static void pingAlone() {
        StreamTransport x = withProbe();
        Check.sends("PING", x, 0, 2, 0);
        Check.due("once", x.send(0), -1);
        Check.due("it is waited for", x.about(0, 1), 2);
    }

    /** "nothing but ACK stands there" */
    private static void pingBehindAnAck() {
        StreamTransport x = withProbe();
        Check.craft(x, 0, 0, 0);
        Check.sends("ACK and PING", x, 0, 2, 1, 0, 0, 0, 0);
        Check.due("once", x.send(0), -1);
    }

    /** The same: none with LIMIT-ALL, LIMIT, RESET or STREAM, and no probe is due any more then. */
    private static void noPingWithOthers() {
        StreamTransport x = withProbe();
        x.reset(0, 1);
        Check.sends("RESET", x, 0, 2, 5, 1, 0);
        Check.due("no probe", x.send(0), -1);
        x = withProbe();
        Check.fill(x, 0, 1, 1);
        Check.sends("STREAM", x, 0, 2, 2, 1, 0, 2, 1);
        Check.due("no probe", x.send(0), -1);
        x = withProbe();
        x.finish(0, 1);
        Check.sends("an end", x, 0, 2, 2, 1, 0, 1);
        Check.due("no probe", x.send(0), -1);
        x = withProbe();
        Check.craft(x, 0, 0, 2, 2, 0, 4, 1, 2);
        Check.drain(x, 0, 2, 2);
        Check.sends("ACK and LIMIT", x, 0, 2, 1, 0, 0, 0, 4, 2, 6);
        Check.due("no probe", x.send(0), -1);
        x = withProbe();
        Check.craft(x, 0, 0, 5, 1, 4);
        Check.sends("ACK and LIMIT-ALL", x, 0, 2, 1, 0, 0, 0, 3, 12);
        Check.due("no probe", x.send(0), -1);
    }

    /** "when a PROBE is due": never before the timer. */
    private static void noPingWithoutAProbe() {
        StreamTransport x = new StreamTransport(0, 0);
        Check.craft(x, 0, 0, 0);
        Check.sends("ACK alone", x, 0, 0, 1, 0, 0, 0);
        Check.ticks(x, 10);
        Check.due("an ACK makes no probe", x.send(0), -1);
    }

    private static int[] packet(int number, int stream, int place, int k, int n) {
        int[] bytes = new int[5 + n];
        bytes[0] = number;
        bytes[1] = 2;
        bytes[2] = stream;
        bytes[3] = place;
        bytes[4] = k;
        for (int i = 0; i < n; i++) {
            bytes[5 + i] = place + i + 1;
        }
        return bytes;
    }

    /** "as many as follow of the same sort, at most 12" */
    private static void upToTwelveBytes() {
        for (int n = 11; n <= 14; n++) {
            StreamTransport x = new StreamTransport(15, 31);
            Check.fill(x, 0, 0, n);
            int first = Math.min(n, 12);
            Check.sends("of " + n, x, 0, packet(0, 0, 0, 2 * first, first));
            if (n > 12) {
                Check.sends("the rest of " + n, x, 0, packet(1, 0, 12, 2 * (n - 12), n - 12));
            }
            Check.due("nothing more", x.send(0), -1);
        }
    }

    /** "at most 12": of lost ones, too, though they were sent in several packets. */
    private static void upToTwelveLostBytes() {
        StreamTransport x = new StreamTransport(15, 31);
        for (int i = 0; i < 17; i++) {
            Check.fill(x, 0, 0, 1);
            x.send(0);
            x.lose(0);
        }
        Check.craft(x, 0, 0, 1, 16, 0, 0);
        Check.due("14 are lost", x.about(0, 1), 2);
        Check.sends("twelve", x, 0, packet(1, 0, 0, 24, 12));
        Check.sends("two", x, 0, packet(2, 0, 12, 4, 2));
        Check.due("nothing more", x.send(0), -1);
    }

    /** "as many as follow": up to the last byte that a stream can have, with and without the end. */
    private static void lostBytesUpToThe64th() {
        for (int end = 0; end < 2; end++) {
            StreamTransport x = new StreamTransport(15, 31);
            Check.craft(x, 0, 0, 4, 1, 64, 64, 3, 64, 64);
            Check.fill(x, 0, 1, 60);
            for (int i = 0; i < 5; i++) {
                x.send(0);
                x.lose(0);
            }
            Check.craft(x, 0, 1, 1, 4, 4, 0);
            Check.due("acked", x.stream(0, 1, 2), 60);
            Check.fill(x, 0, 1, 4);
            x.send(0);
            x.lose(0);
            if (end == 1) {
                x.finish(0, 1);
            }
            Check.ticks(x, 6);
            Check.sends("the last four", x, 0, packet(6, 1, 60, 8 + end, 4));
            Check.due("nothing more", x.send(0), -1);
        }
    }

    /** Six packets of end 0 with a byte each, of which so many as this ACK says are acked. */
    private static StreamTransport sixSent(int... ack) {
        StreamTransport x = new StreamTransport(15, 31);
        for (int i = 0; i < 6; i++) {
            Check.fill(x, 0, 0, 1);
            x.send(0);
            x.lose(0);
        }
        Check.craft(x, 0, 0, ack);
        return x;
    }

    /** "the least place of a lost byte" */
    private static void leastLostPlaceFirst() {
        StreamTransport x = sixSent(1, 4, 0, 0);
        Check.sends("0 and 1", x, 0, packet(6, 0, 0, 4, 2));
        x = new StreamTransport(15, 31);
        Check.fill(x, 0, 0, 1);
        x.send(0);
        Check.fill(x, 0, 0, 1);
        x.send(0);
        Check.craft(x, 0, 0, 1, 0, 0, 0);
        Check.ticks(x, 6);
        x.lose(0);
        x.lose(0);
        Check.sends("1, as 0 is acked", x, 0, packet(2, 0, 1, 2, 1));
    }

    /** "or, without one, of a byte not sent yet" */
    private static void lostOnesFirst() {
        StreamTransport x = sixSent(1, 5, 2, 0);
        Check.fill(x, 0, 0, 2);
        Check.sends("0 to 2", x, 0, packet(6, 0, 0, 6, 3));
        Check.sends("6 and 7", x, 0, packet(7, 0, 6, 4, 2));
        Check.due("nothing more", x.send(0), -1);
    }

    /** "as many as follow of the same sort": an acked byte, one under way, and one not sent end a run of lost ones. */
    private static void runsOfTheSameSort() {
        StreamTransport x = sixSent(1, 5, 0, 1, 2, 0);
        Check.sends("0, as 1 is acked", x, 0, packet(6, 0, 0, 2, 1));
        Check.sends("2, as 3 is under way", x, 0, packet(7, 0, 2, 2, 1));
        x = new StreamTransport(15, 31);
        Check.fill(x, 0, 0, 2);
        x.send(0);
        Check.ticks(x, 6);
        Check.fill(x, 0, 0, 2);
        x.lose(0);
        Check.sends("0 and 1, as 2 was not sent", x, 0, packet(1, 0, 0, 4, 2));
        Check.sends("2 and 3", x, 0, packet(2, 0, 2, 4, 2));
    }

    /** "below the limit for the stream that the other end gave" */
    private static void belowTheLimitOfTheStream() {
        StreamTransport x = new StreamTransport(0, 31);
        Check.fill(x, 0, 0, 10);
        Check.sends("4", x, 0, packet(0, 0, 0, 8, 4));
        Check.due("at the limit", x.send(0), -1);
        Check.craft(x, 0, 0, 4, 0, 4);
        Check.sends("the same limit: an ACK", x, 0, 1, 1, 0, 0, 0);
        Check.craft(x, 0, 1, 4, 0, 5);
        Check.sends("one more", x, 0, 2, 1, 1, 1, 0, 2, 0, 4, 2, 5);
        Check.due("at the limit", x.send(0), -1);
        Check.craft(x, 0, 2, 4, 1, 60);
        Check.sends("the limit of another stream", x, 0, 3, 1, 2, 2, 0);
    }

    /** "the sum of 1 + the greatest place sent of all streams .. is not above the limit for all" */
    private static void sumNotAboveTheLimitForAll() {
        StreamTransport x = new StreamTransport(15, 0);
        Check.fill(x, 0, 0, 5);
        Check.fill(x, 0, 1, 2);
        Check.fill(x, 0, 2, 5);
        Check.sends("5 + 2 + 1", x, 0, 0, 2, 0, 0, 10, 1, 2, 3, 4, 5, 2, 1, 0, 4, 1, 2, 2, 2, 0, 2, 1);
        Check.due("8 are all", x.send(0), -1);
        Check.craft(x, 0, 0, 3, 8);
        Check.sends("the same limit: an ACK", x, 0, 1, 1, 0, 0, 0);
        Check.craft(x, 0, 1, 3, 9);
        Check.sends("one more", x, 0, 2, 1, 1, 1, 0, 2, 2, 1, 2, 2);
        Check.fill(x, 0, 0, 1);
        Check.craft(x, 0, 2, 3, 11);
        Check.sends("one of stream 0, one of stream 2", x, 0, 3, 1, 2, 2, 0, 2, 0, 5, 2, 6, 2, 2, 2, 2, 3);
    }

    /** "of all streams, reset ones among them" */
    private static void resetStreamsAreInTheSum() {
        StreamTransport x = new StreamTransport(15, 0);
        Check.fill(x, 0, 3, 7);
        Check.due("seven", x.send(0), 14);
        x.reset(0, 3);
        Check.fill(x, 0, 0, 3);
        Check.sends("RESET, and one byte", x, 0, 1, 5, 3, 7, 2, 0, 0, 2, 1);
        Check.due("8 are all", x.send(0), -1);
        Check.craft(x, 0, 0, 1, 1, 1, 0);
        Check.due("also when the reset is acked", x.send(0), -1);
    }

    /** "lost ones whatever the limits are" */
    private static void lostOnesWhateverTheLimitsAre() {
        StreamTransport x = new StreamTransport(0, 0);
        Check.fill(x, 0, 0, 9);
        Check.fill(x, 0, 1, 9);
        Check.due("4 + 4", x.send(0), 19);
        Check.due("both limits are used up", x.send(0), -1);
        Check.ticks(x, 6);
        x.lose(0);
        Check.sends("all of them again", x, 0, 1, 2, 0, 0, 8, 1, 2, 3, 4, 2, 1, 0, 8, 1, 2, 3, 4);
        Check.due("and no more", x.send(0), -1);
    }

    /** ACK, 12 bytes of stream 0 and some of stream 1 leave so many of the 37 bytes of frames; then stream 2. */
    private static StreamTransport withRoom(int left) {
        StreamTransport x = new StreamTransport(15, 31);
        Check.craft(x, 0, 0, 0);
        Check.fill(x, 0, 0, 12);
        Check.fill(x, 0, 1, 37 - 4 - 16 - 4 - left);
        return x;
    }

    /** "and as many as there is room for": a frame with a byte takes 5 of what is left. */
    private static void asManyAsThereIsRoomFor() {
        for (int left = 2; left <= 12; left++) {
            StreamTransport x = withRoom(left);
            Check.fill(x, 0, 2, 3);
            int n = Math.min(3, Math.max(0, left - 4));
            Check.due("with " + left + " bytes left", x.send(0), 40 - left + (n > 0 ? 4 + n : 0));
            Check.due("so many were sent", x.stream(0, 2, 1), n);
            if (n < 3) {
                x.lose(0);
                Check.sends("the rest", x, 0, packet(1, 2, n, 2 * (3 - n), 3 - n));
            }
        }
    }

    /** "(a STREAM frame with fewer than one byte is made only for an end)": it takes 4 of what is left. */
    private static void fewerThanOneByteForAnEndAlone() {
        for (int left = 2; left <= 6; left++) {
            StreamTransport x = withRoom(left);
            x.finish(0, 2);
            Check.due("with " + left + " bytes left", x.send(0), 40 - left + (left >= 4 ? 4 : 0));
            x.lose(0);
            if (left < 4) {
                Check.sends("the end", x, 0, 1, 2, 2, 0, 1);
            }
            Check.due("nothing more", x.send(0), -1);
        }
    }

    /** "when no bytes are left so": with room for an end, but not for the byte before it, neither goes. */
    private static void noEndAloneBeforeItsBytes() {
        StreamTransport x = withRoom(4);
        Check.fill(x, 0, 2, 1);
        x.finish(0, 2);
        x.finish(0, 3);
        Check.due("the end of stream 3 goes", x.send(0), 40);
        Check.due("it is stream 3", x.packet(0, 35), 3);
        x.lose(0);
        Check.sends("byte and end of stream 2", x, 0, 1, 2, 2, 0, 3, 1);
    }

    /** "with the end, when they reach the size and it is finished" */
    private static void endWithTheLastByte() {
        for (int n = 11; n <= 14; n++) {
            StreamTransport x = new StreamTransport(15, 31);
            Check.fill(x, 0, 0, n);
            x.finish(0, 0);
            int first = Math.min(n, 12);
            Check.sends("of " + n, x, 0, packet(0, 0, 0, 2 * first + (n <= 12 ? 1 : 0), first));
            if (n > 12) {
                Check.sends("the rest of " + n, x, 0, packet(1, 0, 12, 2 * (n - 12) + 1, n - 12));
            }
            Check.due("nothing more", x.send(0), -1);
        }
        StreamTransport x = withRoom(6);
        Check.fill(x, 0, 2, 3);
        x.finish(0, 2);
        Check.due("two of three have room", x.send(0), 40);
        Check.due("k is even", x.packet(0, 35), 4);
        x.lose(0);
        Check.sends("the last, with the end", x, 0, 1, 2, 2, 2, 3, 3);
    }

    /** "when they reach the size": also lost ones; those that do not reach it have no end. */
    private static void endWithTheLastLostByte() {
        StreamTransport x = new StreamTransport(15, 31);
        Check.fill(x, 0, 0, 2);
        x.send(0);
        Check.fill(x, 0, 0, 1);
        x.finish(0, 0);
        x.send(0);
        x.lose(0);
        x.lose(0);
        Check.ticks(x, 6);
        Check.sends("0 and 1, without the end", x, 0, packet(2, 0, 0, 4, 2));
        Check.ticks(x, 12);
        Check.sends("2, with the end", x, 0, packet(3, 0, 2, 3, 1));
        StreamTransport y = new StreamTransport(15, 31);
        Check.fill(y, 0, 0, 2);
        y.send(0);
        y.lose(0);
        Check.ticks(y, 6);
        y.finish(0, 0);
        Check.sends("finished since", y, 0, packet(1, 0, 0, 5, 2));
        Check.due("the end was sent so", y.send(0), -1);
    }

    /** "a frame without bytes for an end that was not sent, or was lost" */
    private static void endAloneOnce() {
        for (int n = 0; n < 2; n++) {
            StreamTransport x = new StreamTransport(0, 0);
            Check.fill(x, 0, 3, n);
            x.send(0);
            x.lose(0);
            x.finish(0, 3);
            Check.sends("not sent", x, 0, n, 2, 3, n, 1);
            Check.due("sent", x.send(0), -1);
            int[] ack = n == 0 ? new int[] {0} : new int[] {1, 0, 0, 0};
            Check.craft(x, 0, 0, ack);
            x.send(0);
            Check.ticks(x, 6);
            int next = x.about(0, 0);
            Check.sends("lost", x, 0, next, 2, 3, n, 1);
            Check.craft(x, 0, 1, 1, next, 0, 0);
            Check.due("acked", x.stream(0, 3, 4), 1);
            Check.ticks(x, 60);
            Check.due("acked", x.send(0), -1);
        }
    }

    /** "when all bytes were sent": not while a limit holds one back. */
    private static void endAloneBehindTheLimit() {
        StreamTransport x = new StreamTransport(0, 0);
        Check.fill(x, 0, 0, 5);
        x.finish(0, 0);
        Check.sends("four, without the end", x, 0, packet(0, 0, 0, 8, 4));
        Check.due("the limit holds the end, too", x.send(0), -1);
        Check.craft(x, 0, 0, 4, 0, 5);
        Check.sends("the fifth, with the end", x, 0, 1, 1, 0, 0, 0, 2, 0, 4, 3, 5);
        StreamTransport y = new StreamTransport(0, 0);
        Check.fill(y, 0, 0, 4);
        Check.fill(y, 0, 1, 4);
        y.send(0);
        y.lose(0);
        y.finish(0, 0);
        y.finish(0, 2);
        Check.sends("ends need no limit", y, 0, 1, 2, 0, 4, 1, 2, 2, 0, 1);
    }

    /** "when all bytes were sent and none is lost": bytes that have no room go before the end alone. */
    private static void noEndAloneWhileBytesAreLost() {
        StreamTransport x = new StreamTransport(15, 31);
        Check.fill(x, 0, 2, 1);
        x.send(0);
        x.finish(0, 2);
        x.send(0);
        x.lose(0);
        x.lose(0);
        Check.craft(x, 0, 0, 1, 1, 0, 0);
        Check.ticks(x, 6);
        Check.craft(x, 0, 1, 0);
        Check.fill(x, 0, 0, 12);
        Check.fill(x, 0, 1, 9);
        Check.due("four bytes are left", x.send(0), 36);
        x.lose(0);
        Check.sends("the lost byte, with the end", x, 0, packet(3, 2, 0, 3, 1));
    }

    /** "then for each stream, that is not reset": neither bytes nor an end. */
    private static void nothingOfAResetStream() {
        StreamTransport x = new StreamTransport(0, 0);
        Check.fill(x, 0, 0, 2);
        x.finish(0, 0);
        x.finish(0, 1);
        x.reset(0, 0);
        x.reset(0, 1);
        Check.sends("RESETs", x, 0, 0, 5, 0, 0, 5, 1, 0);
        Check.due("nothing more", x.send(0), -1);
    }

    /** "At most one STREAM frame for each stream is made for a packet." */
    private static void oneFrameForEachStream() {
        StreamTransport x = sixSent(1, 5, 0, 1, 2, 0);
        Check.fill(x, 0, 0, 1);
        x.finish(0, 0);
        Check.fill(x, 0, 1, 1);
        Check.sends("0, and stream 1", x, 0, 6, 2, 0, 0, 2, 1, 2, 1, 0, 2, 1);
        Check.sends("2", x, 0, packet(7, 0, 2, 2, 1));
        Check.sends("6, with the end", x, 0, packet(8, 0, 6, 3, 1));
        Check.due("nothing more", x.send(0), -1);
    }

    /** "a packet has at most 37 bytes of frames": and it has as many when there is enough. */
    private static void fullPackets() {
        StreamTransport x = new StreamTransport(15, 31);
        for (int s = 0; s < 4; s++) {
            Check.fill(x, 0, s, 16);
        }
        Check.due("12 + 12 + 1 bytes in three frames", x.send(0), 40);
        Check.due("4 + 4 + 6 bytes, as the limit for all is 39", x.send(0), 3 + 8 + 8 + 10);
        Check.due("nothing more", x.send(0), -1);
        Check.due("39 in all", x.stream(0, 0, 1) + x.stream(0, 1, 1) + x.stream(0, 2, 1) + x.stream(0, 3, 1), 39);
    }

    /** "each as long as there is room for it": a RESET of 3 bytes; what has no room stays to be sent. */
    private static void roomForAReset() {
        for (int ack = 4; ack <= 8; ack++) {
            if (ack == 5) {
                continue;
            }
            StreamTransport x = new StreamTransport(15, 31);
            withLimitsAndAck(x, ack);
            for (int s = 0; s < 4; s++) {
                x.reset(0, s);
            }
            int resets = Math.min(4, (37 - ack - 3 - 16) / 3);
            Check.due("with an ACK of " + ack + " bytes", x.send(0), 3 + ack + 3 + 16 + 3 * resets);
            x.lose(0);
            if (resets == 3) {
                Check.sends("the last RESET", x, 0, x.about(0, 0) % 16, 5, 3, 0);
            }
            Check.due("nothing more", x.send(0), -1);
        }
    }

    /** An ACK of so many bytes is due, LIMIT-ALL in 3 and four LIMITs in 4 bytes each, as 45 bytes of each stream were read. */
    private static void withLimitsAndAck(StreamTransport x, int ack) {
        // The first number may be as great as 15; then no range is below it.
        int number = 15;
        for (int place = 0; place < 45; place += 9) {
            for (int s = 0; s < 4; s++) {
                Check.craft(x, 0, number++, Arrays.copyOf(new int[] {2, s, place, 18}, 13));
                for (int i = 0; i < (place == 36 ? 8 : 9); i++) {
                    x.read(0, s);
                }
                x.send(0);
                x.lose(0);
            }
        }
        for (int s = 0; s < 4; s++) {
            x.read(0, s);
        }
        if (ack == 7) {
            while (number < 63) {
                x.craft(0, number++);
            }
        }
        if (ack == 8) {
            Check.craft(x, 0, number + 1, 0);
            number += 2;
        }
        Check.craft(x, 0, ack == 4 ? number : number + 1, 0);
    }
}
