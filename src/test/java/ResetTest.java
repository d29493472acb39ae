/** Promise 4, and what a reset does at both ends. */
final class ResetTest {
    public static void main(String[] args) {
        answers();
        sizeIsWhatWasSent();
        finishedOneIsReset();
        lostResetIsSentAgain();
        resetEndsTheStream();
        resetWithoutBytes();
        Check.done();
    }

    private static void answers() {
        StreamTransport x = new StreamTransport(0, 0);
        Check.due("reset", x.reset(1, 0), true);
        Check.due("reset again", x.reset(1, 0), false);
        x.finish(1, 1);
        Check.due("reset a finished one", x.reset(1, 1), true);
        Check.due("no end -1", x.reset(-1, 0), false);
        Check.due("no end 2", x.reset(2, 0), false);
        Check.due("no stream -1", x.reset(1, -1), false);
        Check.due("no stream 4", x.reset(1, 4), false);
        x.close(1, 5);
        Check.due("reset when closed", x.reset(1, 2), false);
        Check.due("reset at the other end", x.reset(0, 2), true);
    }

    private static void sizeIsWhatWasSent() {
        StreamTransport x = new StreamTransport(0, 0);
        Check.fill(x, 0, 0, 10);
        Check.passes("as many as the limit allows", x, 0);
        x.reset(0, 0);
        Check.due("send", x.send(0), 6);
        Check.bytes("reset", x, 0, 1, 5, 0, 4);
        Check.due("deliver", x.deliver(0), 0);
        Check.due("size", x.stream(1, 0, 7), 4);
        Check.due("nothing can be read", x.stream(1, 0, 6), 0);
        Check.due("read", Check.read(x, 1, 0), Check.STATE);
        Check.due("not acked yet", x.stream(0, 0, 4), 0);
        Check.passes("ack", x, 1);
        Check.due("acked", x.stream(0, 0, 4), 1);
        Check.due("its bytes are acked, too", x.stream(0, 0, 2), 4);
        Check.due("nothing more to send", x.send(0), 7);
        Check.due("nothing more to send", x.send(0), -1);
    }

    private static void finishedOneIsReset() {
        StreamTransport x = new StreamTransport(0, 0);
        Check.fill(x, 0, 1, 3);
        x.finish(0, 1);
        Check.passes("bytes and end", x, 0);
        Check.drain(x, 1, 1, 3);
        Check.passes("ack", x, 1);
        Check.due("all acked", x.stream(0, 1, 4), 1);
        x.reset(0, 1);
        Check.due("all bytes and the end are acked still", x.stream(0, 1, 4), 1);
        Check.due("reset with the size said before", x.send(0), 10);
        Check.due("deliver", x.deliver(0), 0);
        Check.due("not closed", x.closed(1), -1);
        Check.due("read of a reset one that was read to its end", Check.read(x, 1, 1), Check.STATE);
    }

    private static void lostResetIsSentAgain() {
        StreamTransport x = new StreamTransport(0, 0);
        x.reset(0, 3);
        Check.sends("reset", x, 0, 0, 5, 3, 0);
        Check.due("under way or not, it was sent", x.send(0), -1);
        Check.ticks(x, 6);
        Check.sends("reset, lost by the timer", x, 0, 1, 5, 3, 0);
    }

    private static void resetEndsTheStream() {
        StreamTransport x = new StreamTransport(0, 31);
        Check.fill(x, 0, 0, 4);
        Check.passes("four bytes", x, 0);
        Check.fill(x, 0, 2, 3);
        Check.due("bytes that are lost", x.send(0), 10);
        x.lose(0);
        x.reset(0, 0);
        x.reset(0, 2);
        Check.sends("two resets", x, 0, 2, 5, 0, 4, 5, 2, 3);
        Check.ticks(x, 6);
        Check.due("the lost bytes of a reset stream are not sent: a probe", x.send(0), 4);
        Check.bytes("probe", x, 0, 3, 0);
    }

    private static void resetWithoutBytes() {
        StreamTransport x = new StreamTransport(0, 0);
        Check.fill(x, 0, 0, 5);
        x.reset(0, 0);
        Check.due("send", x.send(0), 6);
        Check.bytes("none was sent", x, 0, 0, 5, 0, 0);
        x.deliver(0);
        Check.due("size", x.stream(1, 0, 7), 0);
    }
}
