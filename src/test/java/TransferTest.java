import java.util.Random;

/** All that is written arrives in the end, whatever the network does; and no call throws what it must not. */
final class TransferTest {
    public static void main(String[] args) {
        for (int seed = 0; seed < 300; seed++) {
            transfer(new Random(seed));
        }
        for (int seed = 0; seed < 100; seed++) {
            anyCalls(new Random(seed));
        }
        Check.done();
    }

    /** The streams are short and the network is bad at first alone, so that an object's 512 calls are enough. */
    private static void transfer(Random random) {
        StreamTransport x = new StreamTransport(random.nextInt(), random.nextInt());
        int[] sizes = new int[4];
        for (int s = 0; s < 4; s++) {
            sizes[s] = random.nextInt(13);
            Check.fill(x, 0, s, sizes[s]);
            x.finish(0, s);
        }
        for (int round = 0; round < 20; round++) {
            x.send(0);
            x.send(1);
            disturb(x, random);
            x.tick();
            readStream(x, round % 4);
        }
        for (int round = 0; round < 30 && !isAcked(x); round++) {
            x.send(round % 2);
            for (int left = x.packets(); left > 0; left--) {
                x.deliver(0);
            }
            Check.ticks(x, 4);
            readStream(x, round % 4);
            readStream(x, (round + 1) % 4);
        }
        for (int s = 0; s < 4; s++) {
            readStream(x, s);
            Check.due("all was acked", x.stream(0, s, 4), 1);
            Check.due("all was read", x.stream(1, s, 5), sizes[s]);
            Check.due("all came", x.stream(1, s, 7), sizes[s]);
        }
        Check.due("end 0 is not closed", x.closed(0), -1);
        Check.due("end 1 is not closed", x.closed(1), -1);
    }

    private static void readStream(StreamTransport x, int s) {
        int ready = x.stream(1, s, 6);
        int place = ready > 0 ? x.stream(1, s, 5) : 0;
        for (int i = 1; i <= ready; i++) {
            Check.due("byte of stream " + s, Check.read(x, 1, s), place + i);
        }
    }

    private static boolean isAcked(StreamTransport x) {
        for (int s = 0; s < 4; s++) {
            if (x.stream(0, s, 4) == 0) {
                return false;
            }
        }
        return true;
    }

    private static void disturb(StreamTransport x, Random random) {
        int turns = random.nextInt(4);
        int under = x.packets();
        for (int i = 0; i < turns && under > 0; i++) {
            int k = random.nextInt(under);
            switch (random.nextInt(8)) {
                case 0: under -= x.lose(k) ? 1 : 0; break;
                case 1: under += x.copy(k) ? 1 : 0; break;
                case 2: x.spoil(k, random.nextInt(3), 1 + random.nextInt(255)); break;
                default: under -= x.deliver(k) >= 0 ? 1 : 0; break;
            }
        }
    }

    /** Far more calls than an object has: their answers are free, but none may throw by itself. */
    private static void anyCalls(Random random) {
        StreamTransport x = new StreamTransport(random.nextInt(), random.nextInt());
        int number = 0;
        for (int i = 0; i < 4000; i++) {
            int a = any(random);
            int b = any(random);
            int c = any(random);
            long w = random.nextBoolean() ? random.nextInt(8) : random.nextLong();
            switch (random.nextInt(20)) {
                case 0: Check.answer(() -> x.write(a, b, c, w)); break;
                case 1: x.finish(a, b); break;
                case 2: x.reset(a, random.nextInt(9) == 0 ? b : -1); break;
                case 3: Check.answer(() -> x.read(a, b)); break;
                case 4: x.close(random.nextInt(50) == 0 ? a : -1, b); break;
                case 5: case 6: x.send(a); break;
                case 7: case 8: x.deliver(a); break;
                case 9: x.lose(a); break;
                case 10: x.copy(a); break;
                case 11: x.spoil(a, b, c); break;
                case 12: x.raw(random.nextInt(9) == 0 ? a : 1, random.nextInt(9) == 0 ? w : 0); break;
                case 13: x.craft(a, random.nextInt(9) == 0 ? b : number); break;
                case 14: x.tick(); break;
                case 15: x.packet(a, b); break;
                case 16: x.closed(a); break;
                case 17: number = x.about(a, b) + random.nextInt(9); break;
                case 18: x.stream(a, b, c); break;
                default: x.craft(random.nextInt(2), Math.max(0, x.about(0, 4) + 9)); break;
            }
        }
    }

    private static int any(Random random) {
        return random.nextInt(20) == 0 ? random.nextInt() : random.nextInt(8) - 1;
    }
}
