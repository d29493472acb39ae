/** Promise 3. */
final class FinishTest {
    public static void main(String[] args) {
        answers();
        endTravels();
        endAlone();
        Check.done();
    }

    private static void answers() {
        StreamTransport x = new StreamTransport(0, 0);
        Check.due("finish", x.finish(0, 0), true);
        Check.due("finish again", x.finish(0, 0), false);
        x.reset(0, 1);
        Check.due("finish a reset one", x.finish(0, 1), false);
        Check.due("no end -1", x.finish(-1, 0), false);
        Check.due("no end 2", x.finish(2, 0), false);
        Check.due("no stream -1", x.finish(0, -1), false);
        Check.due("no stream 4", x.finish(0, 4), false);
        x.close(0, 5);
        Check.due("finish when closed", x.finish(0, 2), false);
        Check.due("finish at the other end", x.finish(1, 2), true);
    }

    private static void endTravels() {
        StreamTransport x = new StreamTransport(4, 8);
        Check.fill(x, 0, 2, 3);
        x.finish(0, 2);
        Check.due("size before it came", x.stream(1, 2, 7), -1);
        Check.passes("bytes and end", x, 0);
        Check.due("size", x.stream(1, 2, 7), 3);
        Check.drain(x, 1, 2, 3);
        Check.due("read behind the end", Check.read(x, 1, 2), Check.UNSUPPORTED);
        Check.passes("ack", x, 1);
        Check.due("all acked", x.stream(0, 2, 4), 1);
    }

    private static void endAlone() {
        StreamTransport x = new StreamTransport(4, 8);
        x.finish(0, 3);
        Check.due("send", x.send(0), 7);
        Check.bytes("an end without bytes", x, 0, 0, 2, 3, 0, 1);
        Check.due("once", x.send(0), -1);
        Check.due("deliver", x.deliver(0), 0);
        Check.due("size", x.stream(1, 3, 7), 0);
        Check.due("read", Check.read(x, 1, 3), Check.UNSUPPORTED);
        Check.due("not acked yet", x.stream(0, 3, 4), 0);
        Check.passes("ack", x, 1);
        Check.due("of one without bytes the end", x.stream(0, 3, 4), 1);

        Check.fill(x, 0, 1, 4);
        Check.passes("bytes", x, 0);
        x.finish(0, 1);
        Check.sends("an end behind bytes that were sent", x, 0, 2, 2, 1, 4, 1);
    }
}
