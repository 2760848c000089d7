import java.util.Random;

/**
 * Promises 1 to 11, and 8 above all: the class and the second machine get the same calls and must
 * answer the same. Each of the 65536 words is done in several states, then come runs of many steps.
 */
public final class SecondTest {
    private static final Checks CHECKS = new Checks();
    private static final int ROUNDS = 6;
    private static final int RUNS = 2200;

    private final Random random;
    private final BoardCore board = new BoardCore();
    private final Second second = new Second();
    private final StringBuilder calls = new StringBuilder();

    private SecondTest(long seed) {
        random = new Random(seed);
    }

    public static void main(String[] args) {
        for (int round = 0; round < ROUNDS; round++) {
            for (int word = 0; word < 65536; word++) {
                if (word >>> 12 != 10 && word >>> 12 != 15 || word % 64 == round) {
                    new SecondTest(round * 65536L + word).single(word);
                }
            }
        }
        for (int run = 0; run < RUNS; run++) {
            new SecondTest(run).run();
        }
        CHECKS.end();
    }

    private void put(int k, int v) {
        calls.append(" put(").append(k).append(", 0x").append(Integer.toHexString(v)).append(")");
        board.put(k, v);
        second.put(k, v);
    }

    private void write(int address, int v, int n) {
        calls.append(" write(0x").append(Integer.toHexString(address)).append(", 0x").append(Integer.toHexString(v));
        calls.append(", ").append(n).append(")");
        board.write(address, v, n);
        second.write(address, v, n);
    }

    private void want(int level) {
        calls.append(" want(").append(level).append(")");
        board.want(level);
        second.want(level);
    }

    private void step(int n) {
        calls.append(" step(").append(n).append(")");
        second.forgetTouched();
        same("answer", board.step(n), second.step(n));
    }

    // All calls are told only where an answer is wrong: to join them each time would take most of the time.
    private void same(String what, int got, int due) {
        CHECKS.same(got == due ? what : calls + " " + what, got, due);
    }

    /** One word with operands somewhere, then one step. */
    private void single(int word) {
        registers();
        for (int i = 0; i < 30; i++) {
            write(near(), number(), 4);
        }
        for (int n = 3; n < 48; n++) {
            if (n < 12 || n % 8 == word % 8) {
                write(4 * n, 0x100 + 2 * random.nextInt(0x80), 4);
            }
        }
        code(0x400, word);
        if (random.nextInt(16) == 0) {
            want(random.nextInt(8));
        }
        step(1);
        look();
    }

    private void registers() {
        for (int k = 0; k < 8; k++) {
            put(k, number());
        }
        for (int k = 8; k < 20; k++) {
            if (k != 16 && k != 17) {
                put(k, pointer());
            }
        }
        int s = random.nextInt(3) == 0 ? 0 : 0x2000;
        int t = random.nextInt(4) == 0 ? 0x8000 : 0;
        put(17, s | t | random.nextInt(0x0800));
    }

    /** Extension words of every kind: short ways, indexes, addresses, anything. */
    private void code(int address, int word) {
        write(address, word, 2);
        for (int i = 1; i < 5; i++) {
            int any = random.nextInt(0x10000);
            int[] words = {random.nextInt(64) - 32, any, 2 * random.nextInt(0x800), 0, any & ~1};
            write(address + 2 * i, words[random.nextInt(words.length)], 2);
        }
    }

    private int number() {
        int[] edges = {0, 1, -1, 0x7F, 0x80, 0xFF, 0x7FFF, 0x8000, 0xFFFF, 0x7FFFFFFF, 0x80000000, 0x10000, 0x99, 0x9A};
        switch (random.nextInt(4)) {
            case 0:
                return edges[random.nextInt(edges.length)];
            case 1:
                return random.nextInt(128) - 64;
            case 2:
                return edges[random.nextInt(edges.length)] ^ random.nextInt(256) << 8 * random.nextInt(4);
            default:
                return random.nextInt();
        }
    }

    // Mostly even: otherwise hardly an instruction would come to its end.
    private int pointer() {
        int address = random.nextInt(5) == 0 ? random.nextInt() : random.nextInt(4096);
        return random.nextInt(24) == 0 ? address | 1 : address & ~1;
    }

    /** An address close to one of the pointers. */
    private int near() {
        int k = 8 + random.nextInt(9);
        return second.register(k == 16 ? 18 : k) + random.nextInt(24) - 12;
    }

    private void look() {
        for (int k = 0; k < 20; k++) {
            same("register " + k, board.register(k), second.register(k));
        }
        same("state", board.state(), second.state());
        same("sum", board.sum(), second.sum());
        same("exceptions", board.exceptions(0), second.exceptions(0));
        for (int n = 3; n < 12; n++) {
            same("exceptions " + n, board.exceptions(n), second.exceptions(n));
        }
        for (int a = 0; a < 4096; a++) {
            if (second.wasTouched(a)) {
                same("byte at " + a, board.read(a, 1), second.read(a, 1));
            }
        }
    }

    /** A run of instructions, most of which are legal, with interrupts between them. */
    private void run() {
        registers();
        for (int n = 3; n < 48; n++) {
            write(4 * n, 0x100 + 2 * random.nextInt(0x600), 4);
        }
        for (int i = 0; i < 120; i++) {
            write(0x100 + 4 * random.nextInt(0x300), legal() << 16 | legal(), 4);
        }
        for (int i = 0; i < 4; i++) {
            put(16, 0x100 + 2 * random.nextInt(0x600));
            want(random.nextInt(8));
            step(random.nextInt(12));
            compareRegisters();
            step(random.nextInt(200));
            compareRegisters();
        }
        same("all exceptions", board.exceptions(0), second.exceptions(0));
    }

    private int legal() {
        int word = random.nextInt(65536);
        while (!SecondLines.isInstruction(word)) {
            word = random.nextInt(65536);
        }
        return word;
    }

    private void compareRegisters() {
        for (int k = 8; k < 20; k++) {
            same("register " + k, board.register(k), second.register(k));
        }
        same("state", board.state(), second.state());
        same("sum", board.sum(), second.sum());
        if (second.state() == Second.HALTED) {
            calls.append(" reset()");
            board.reset();
            second.reset();
            registers();
        }
    }
}
