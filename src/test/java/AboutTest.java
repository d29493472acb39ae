/** Promise 18. */
final class AboutTest {
    public static void main(String[] args) {
        noSuch();
        numbers();
        waiting();
        limits();
        Check.done();
    }

    private static void noSuch() {
        StreamTransport x = new StreamTransport(0, 0);
        for (int what = 0; what < 6; what++) {
            Check.due("end -1", x.about(-1, what), -1);
            Check.due("end 2", x.about(2, what), -1);
        }
        for (int what : new int[] {-1, 6, 7, Integer.MIN_VALUE, Integer.MAX_VALUE}) {
            Check.due("what " + what, x.about(0, what), -1);
        }
    }

    private static void numbers() {
        StreamTransport x = new StreamTransport(0, 0);
        Check.fill(x, 0, 0, 1);
        x.send(0);
        Check.fill(x, 0, 0, 1);
        x.send(0);
        Check.due("next number", x.about(0, 0), 2);
        Check.due("of the other end", x.about(1, 0), 0);
        x.deliver(1);
        Check.due("greatest processed", x.about(1, 4), 1);
        x.deliver(0);
        Check.due("it stays the greatest", x.about(1, 4), 1);
        Check.due("nothing to send takes no number", x.send(0), -1);
        Check.due("next number", x.about(0, 0), 2);
    }

    private static void waiting() {
        StreamTransport x = new StreamTransport(15, 31);
        Check.fill(x, 0, 0, 1);
        x.send(0);
        x.finish(0, 1);
        x.send(0);
        x.reset(0, 2);
        x.send(0);
        Check.craft(x, 0, 0, 0);
        x.send(0);
        Check.due("three, and an ACK alone", x.about(0, 1), 3);
        Check.craft(x, 0, 1, 1, 1, 0, 0);
        Check.due("one is acked", x.about(0, 1), 2);
        Check.ticks(x, 6);
        Check.due("one is lost", x.about(0, 1), 1);
        Check.due("b", x.about(0, 5), 1);
        x.close(0, 1);
        x.send(0);
        Check.due("a CLOSE does not count", x.about(0, 1), 1);
    }

    private static void limits() {
        StreamTransport x = new StreamTransport(15, 0);
        Check.fill(x, 0, 0, 8);
        Check.passes("eight bytes", x, 0);
        Check.drain(x, 1, 0, 4);
        Check.due("given, before it is sent", x.about(1, 3), 8);
        Check.due("send", x.send(1), 9);
        Check.due("given", x.about(1, 3), 12);
        Check.due("not there yet", x.about(0, 2), 8);
        x.deliver(0);
        Check.due("there", x.about(0, 2), 12);
        Check.due("the other way", x.about(0, 3), 8);
        Check.due("the other way", x.about(1, 2), 8);
    }
}
