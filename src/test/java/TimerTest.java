/** Promise 14, and the timer at the ends. */
final class TimerTest {
    public static void main(String[] args) {
        theTime();
        doublesUpTo48();
        countsFromTheLatest();
        ackMakesItShort();
        probe();
        probeGoesWithOthers();
        notWhenClosed();
        onlyWhatWaits();
        Check.done();
    }

    private static void theTime() {
        StreamTransport x = new StreamTransport(0, 0);
        for (int t = 1; t <= 100; t++) {
            Check.due("tick", x.tick(), t);
        }
    }

    private static void look(String what, StreamTransport x, int b, int waiting) {
        Check.due(what + ", b", x.about(0, 5), b);
        Check.due(what + ", waiting", x.about(0, 1), waiting);
    }

    private static void doublesUpTo48() {
        StreamTransport x = new StreamTransport(15, 31);
        for (int i = 0; i < 6; i++) {
            Check.fill(x, 0, 0, 1);
            x.send(0);
        }
        int[] ticks = {6, 12, 24, 48, 48};
        int[] b = {1, 2, 3, 3, 3};
        for (int i = 0; i < 5; i++) {
            Check.ticks(x, ticks[i] - 1);
            look("just before", x, i == 0 ? 0 : b[i - 1], 6 - i);
            x.tick();
            look("then", x, b[i], 5 - i);
        }
    }

    private static void countsFromTheLatest() {
        StreamTransport x = new StreamTransport(15, 31);
        Check.ticks(x, 3);
        Check.fill(x, 0, 0, 1);
        x.send(0);
        Check.ticks(x, 5);
        Check.fill(x, 0, 0, 1);
        x.send(0);
        Check.craft(x, 0, 0, 0);
        Check.ticks(x, 2);
        Check.due("an ACK alone", x.send(0), 7);
        Check.ticks(x, 3);
        look("five behind the latest", x, 0, 2);
        x.tick();
        look("six behind the latest: the least is lost", x, 1, 1);
        Check.due("send", x.send(0), 8);
        Check.due("the first byte", x.packet(3, 3), 0);
    }

    private static void ackMakesItShort() {
        StreamTransport x = new StreamTransport(15, 31);
        for (int i = 0; i < 4; i++) {
            Check.fill(x, 0, 0, 1);
            x.send(0);
        }
        Check.ticks(x, 18);
        look("twice", x, 2, 2);
        Check.ticks(x, 10);
        Check.craft(x, 0, 0, 1, 2, 0, 0);
        look("acked", x, 0, 1);
        x.tick();
        look("the sixth is past: a later one is as good", x, 1, 0);
    }

    private static void probe() {
        StreamTransport x = new StreamTransport(15, 31);
        x.finish(0, 0);
        x.send(0);
        x.reset(0, 0);
        x.send(0);
        Check.ticks(x, 6);
        Check.craft(x, 0, 0, 0);
        x.lose(0);
        x.lose(0);
        Check.due("send", x.send(0), 8);
        Check.bytes("ack and ping", x, 0, 2, 1, 0, 0, 0, 0);
        Check.due("due no more", x.send(0), -1);
        Check.due("it waits for an ack", x.about(0, 1), 2);
        Check.due("deliver", x.deliver(0), 0);
        Check.due("acking what was never sent", x.closed(1), 5);
    }

    private static void probeGoesWithOthers() {
        StreamTransport x = new StreamTransport(15, 31);
        Check.fill(x, 0, 0, 1);
        x.send(0);
        Check.ticks(x, 6);
        Check.due("a lost byte, no ping", x.send(0), 8);
        Check.due("no probe any more", x.send(0), -1);
        Check.ticks(x, 12);
        x.reset(0, 0);
        Check.due("a reset, no ping", x.send(0), 6);
        Check.due("no probe any more", x.send(0), -1);
    }

    private static void notWhenClosed() {
        StreamTransport x = new StreamTransport(15, 31);
        Check.fill(x, 0, 0, 1);
        x.send(0);
        x.close(0, 1);
        Check.ticks(x, 10);
        look("closed", x, 0, 1);
    }

    private static void onlyWhatWaits() {
        StreamTransport x = new StreamTransport(15, 31);
        Check.fill(x, 0, 0, 1);
        Check.passes("a byte", x, 0);
        Check.passes("its ack", x, 1);
        Check.ticks(x, 20);
        look("nothing waits", x, 0, 0);
        Check.due("no probe", x.send(0), -1);
        Check.fill(x, 0, 0, 1);
        x.send(0);
        Check.ticks(x, 5);
        look("five", x, 0, 1);
        x.tick();
        look("six", x, 1, 0);
        Check.due("the other end", x.about(1, 5), 0);
    }
}
