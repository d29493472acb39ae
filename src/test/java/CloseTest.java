/** Promises 6 and 17: closing by the call, by a wrong frame, and by a CLOSE that came. */
final class CloseTest {
    public static void main(String[] args) {
        answers();
        closeTravels();
        closedByAWrongFrame();
        anyCodeMayCome();
        bothClose();
        nothingElseIsSent();
        Check.done();
    }

    private static void answers() {
        StreamTransport x = new StreamTransport(0, 0);
        Check.due("code -1", x.close(0, -1), false);
        Check.due("code 64", x.close(0, 64), false);
        Check.due("no end -1", x.close(-1, 0), false);
        Check.due("no end 2", x.close(2, 0), false);
        Check.due("closed -1", x.closed(-1), -1);
        Check.due("closed 2", x.closed(2), -1);
        Check.due("not closed", x.closed(0), -1);
        Check.due("code 63", x.close(0, 63), true);
        Check.due("closed", x.closed(0), 63);
        Check.due("close again", x.close(0, 1), false);
        Check.due("closed as before", x.closed(0), 63);
        Check.due("code 0", x.close(1, 0), true);
        Check.due("closed with 0", x.closed(1), 0);
    }

    private static void closeTravels() {
        StreamTransport x = new StreamTransport(0, 0);
        x.close(1, 17);
        Check.due("send", x.send(1), 5);
        Check.bytes("close", x, 0, 0, 6, 17);
        Check.due("once", x.send(1), -1);
        Check.due("number used up", x.about(1, 0), 1);
        Check.due("it does not wait for an ack", x.about(1, 1), 0);
        Check.due("the other end is not closed yet", x.closed(0), -1);
        Check.due("deliver", x.deliver(0), 0);
        Check.due("closed by what came", x.closed(0), 17);
        Check.due("no answer", x.send(0), -1);
        Check.due("close what is closed", x.close(0, 1), false);
    }

    private static void closedByAWrongFrame() {
        StreamTransport x = new StreamTransport(0, 0);
        Check.due("a stream above 3", Check.craft(x, 0, 0, 5, 4, 0), 0);
        Check.due("closed", x.closed(0), 2);
        Check.sends("close", x, 0, 0, 6, 2);
        Check.due("once", x.send(0), -1);
    }

    private static void anyCodeMayCome() {
        StreamTransport x = new StreamTransport(0, 0);
        Check.due("close", Check.craft(x, 1, 0, 6, 0xBF, 255, 255, 254, 99), 0);
        Check.due("any number; what stands behind is not looked at", x.closed(1), (1 << 30) - 2);
        Check.due("none is sent", x.send(1), -1);
        Check.due("code 0", Check.codeOf(6, 0), 0);
        Check.due("code in two bytes", Check.codeOf(6, 64, 5), 5);
    }

    private static void bothClose() {
        StreamTransport x = new StreamTransport(0, 0);
        x.close(0, 1);
        x.close(1, 2);
        x.send(0);
        x.send(1);
        Check.due("it was closed before", x.deliver(0), 2);
        Check.due("it was closed before", x.deliver(0), 2);
        Check.due("its own code", x.closed(1), 2);
        Check.due("its own code", x.closed(0), 1);
    }

    private static void nothingElseIsSent() {
        StreamTransport x = new StreamTransport(0, 0);
        Check.fill(x, 0, 0, 4);
        x.finish(0, 0);
        x.reset(0, 1);
        Check.craft(x, 0, 0, 0);
        x.close(0, 3);
        Check.sends("just close", x, 0, 0, 6, 3);
        Check.due("nothing more", x.send(0), -1);
    }
}
