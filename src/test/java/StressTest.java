import java.util.Random;

/**
 * Promises 2 to 11 under random calls: nothing but the exceptions of the document reaches the caller,
 * SR has only its bits, and the same calls give the same answers.
 */
public final class StressTest {
    private static final Checks CHECKS = new Checks();
    private static final int OBJECTS = 3000;
    // Some rounds make several calls: all of them stay below 512.
    private static final int ROUNDS = 160;

    private StressTest() {
    }

    public static void main(String[] args) {
        for (int seed = 0; seed < OBJECTS; seed++) {
            long first = run(new Random(seed));
            if (seed % 10 == 0) {
                CHECKS.same("the same calls again, seed " + seed, run(new Random(seed)), first);
            }
        }
        CHECKS.end();
    }

    private static long run(Random random) {
        BoardCore b = new BoardCore();
        long answers = 0;
        for (int i = 0; i < ROUNDS; i++) {
            try {
                answers = answers * 31 + call(b, random, i);
            } catch (IndexOutOfBoundsException | IllegalArgumentException e) {
                CHECKS.same("no call with such arguments throws " + e, 1, 0);
            }
        }
        CHECKS.same("SR has only its bits", b.register(17) & ~0xA71F, 0);
        return answers * 31 + b.sum();
    }

    private static int value(Random random) {
        switch (random.nextInt(4)) {
            case 0:
                return random.nextInt();
            case 1:
                return random.nextInt(64) - 32;
            default:
                return random.nextInt(4096) & ~(random.nextInt(8) == 0 ? 0 : 1);
        }
    }

    private static int call(BoardCore b, Random random, int i) {
        int what = random.nextInt(i < 60 ? 6 : 20);
        switch (what) {
            case 0:
                b.put(random.nextInt(20), value(random));
                return 0;
            case 1:
                b.write(value(random), random.nextInt(), 1 << random.nextInt(3));
                return 0;
            case 2:
            case 3:
                b.write(0x380 + random.nextInt(0x180) * 2, random.nextInt(), 4);
                return 0;
            case 4:
                b.write(4 * random.nextInt(48), 0x380 + 2 * random.nextInt(0x180), 4);
                return 0;
            case 5:
                b.want(random.nextInt(8));
                return 0;
            case 6:
                if (b.state() == 2) {
                    b.reset();
                }
                return b.state();
            case 7:
                return b.register(random.nextInt(20));
            case 8:
                return b.read(value(random), 1 << random.nextInt(3));
            case 9:
                return b.exceptions(random.nextInt(64));
            default:
                return stepped(b, random.nextInt(12) == 0 ? 3000 : random.nextInt(4));
        }
    }

    private static int stepped(BoardCore b, int n) {
        int before = b.state();
        int done = b.step(n);
        boolean all = done == n;
        CHECKS.same("fewer steps only when it waits or is halted", all || b.state() != 0 ? 1 : 0, 1);
        CHECKS.same("halted for ever", before == 2 ? done : 0, 0);
        return done * 7 + b.register(16);
    }
}
