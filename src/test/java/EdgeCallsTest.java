/** The boundary cases that promises 1 to 11 name, sentence by sentence. */
public final class EdgeCallsTest {
    private static final Checks CHECKS = new Checks();
    private static final int[] FAR = {Integer.MIN_VALUE, Integer.MAX_VALUE};

    private EdgeCallsTest() {
    }

    public static void main(String[] args) {
        newObject();
        reset();
        noSuchRegister();
        everyRegister();
        bitsOfStatus();
        sizesOfWrite();
        sizesOfRead();
        addressesGoRound();
        noAddressErrors();
        levels();
        levelInPlaceOfAnother();
        numbersOfSteps();
        interruptsAreSteps();
        fewerSteps();
        states();
        numbersOfExceptions();
        countsOfExceptions();
        sums();
        refusedCallsChangeNothing();
        CHECKS.end();
    }

    private static void asNew(String what, BoardCore b) {
        for (int k = 0; k < 20; k++) {
            int due = k == 15 || k == 16 || k == 19 ? 0x400 : k == 17 ? 0x2000 : 0;
            CHECKS.same(what + " register " + k, b.register(k), due);
        }
        CHECKS.same(what + " state", b.state(), 0);
        for (int n = 0; n < 64; n++) {
            CHECKS.same(what + " exceptions " + n, b.exceptions(n), 0);
        }
    }

    private static void newObject() {
        CHECKS.sentence("All registers, memory and SR are 0, but S is 1; PC 0x400, the supervisor's A7 0x400.");
        BoardCore b = new BoardCore();
        asNew("new", b);
        // No byte is below 0 in the sum, so that it is 0 only if all of them are.
        CHECKS.same("memory", b.sum(), 0);
        CHECKS.same("0000 0000 0000 0000 at 0x400 is an instruction", b.step(1), 1);
        CHECKS.same("or of D0, without exception", b.exceptions(0), 0);
        CHECKS.same("it has one more word", b.register(16), 0x404);
    }

    private static void reset() {
        CHECKS.sentence("As the constructor, but memory stays.");
        BoardCore plain = new BoardCore();
        plain.reset();
        asNew("reset at once", plain);
        BoardCore[] boards = {Board.used(), Board.waiting(), Board.halted(), user()};
        for (int i = 0; i < boards.length; i++) {
            BoardCore b = boards[i];
            b.write(0, 0x01020304, 4);
            b.write(-4, 0x05060708, 4);
            b.want(7);
            int sum = b.sum();
            b.reset();
            asNew("reset of board " + i, b);
            CHECKS.same("memory's sum stays", b.sum(), sum);
            CHECKS.same("memory's first bytes stay", b.read(0, 4), 0x01020304);
            CHECKS.same("memory's last bytes stay", b.read(4092, 4), 0x05060708);
            b.write(0x400, 0x4E71, 2);
            CHECKS.same("it goes on", b.step(1), 1);
            CHECKS.same("no interrupt is wanted", b.exceptions(0), 0);
            CHECKS.same("an instruction is done", b.register(16), 0x402);
        }
    }

    private static BoardCore user() {
        BoardCore b = Board.with();
        for (int k = 0; k < 20; k++) {
            b.put(k, -2 - k);
        }
        b.put(17, 0x871F);
        return b;
    }

    private static void noSuchRegister() {
        CHECKS.sentence("IndexOutOfBoundsException: there is none.");
        int[] wrong = {-1, -2, 20, 21, 31, 32, 64, 256 + 5, FAR[0], FAR[1]};
        for (int k : wrong) {
            CHECKS.refused("register " + k, IndexOutOfBoundsException.class, b -> b.register(k));
            CHECKS.refused("put " + k, IndexOutOfBoundsException.class, b -> b.put(k, 0x1234));
        }
        BoardCore b = new BoardCore();
        b.put(0, 3);
        CHECKS.same("the first one that there is", b.register(0), 3);
        b.put(19, 5);
        CHECKS.same("the last one that there is", b.register(19), 5);
    }

    /** Which other number means the same register, in the mode of S. */
    private static int twin(int k, boolean supervisor) {
        int stack = supervisor ? 19 : 18;
        return k == 15 ? stack : k == stack ? 15 : k;
    }

    private static void everyRegister() {
        CHECKS.sentence("Register k: 0 to 7 D0 .., 8 to 15 A0 .., 16 PC, 17 SR, 18 the user's A7, 19 the "
            + "supervisor's.");
        int[] values = {0, 1, -1, FAR[0], FAR[1], 0x12345678};
        for (int s = 0; s <= 0x2000; s += 0x2000) {
            for (int k = 0; k < 20; k++) {
                BoardCore b = Board.used();
                b.put(17, s);
                int[] before = Board.seen(b);
                for (int v : values) {
                    if (k == 17) {
                        continue;
                    }
                    b.put(k, v);
                    for (int i = 0; i < 20; i++) {
                        boolean meant = i == k || i == twin(k, s != 0);
                        CHECKS.same("put " + k + ", register " + i, b.register(i), meant ? v : before[i]);
                    }
                }
                CHECKS.same("memory stays", b.sum(), before[85]);
            }
        }
        // 15 is the A7 of S as it is.
        BoardCore b = new BoardCore();
        b.put(18, 0x111);
        b.put(19, 0x222);
        CHECKS.same("A7 with S 1", b.register(15), 0x222);
        b.put(17, 0);
        CHECKS.same("A7 with S 0", b.register(15), 0x111);
        CHECKS.same("the supervisor's with S 0", b.register(19), 0x222);
        b.put(17, 0);
        CHECKS.same("S 0 once more", b.register(15), 0x111);
        b.put(17, 0x2000);
        CHECKS.same("the user's with S 1", b.register(18), 0x111);
        b.put(17, 0xFFFF);
        CHECKS.same("S 1 once more", b.register(15), 0x222);
    }

    private static void bitsOfStatus() {
        CHECKS.sentence("Register k, as there, becomes v (of SR the bits that it has).");
        int[] has = {0, 1, 2, 3, 4, 8, 9, 10, 13, 15};
        for (int bit = 0; bit < 32; bit++) {
            int due = 0;
            for (int h : has) {
                due |= h == bit ? 1 << bit : 0;
            }
            BoardCore b = new BoardCore();
            b.put(17, 1 << bit);
            CHECKS.same("bit " + bit + " alone", b.register(17), due);
            b.put(17, ~(1 << bit));
            CHECKS.same("all but bit " + bit, b.register(17), 0xA71F & ~due);
        }
        BoardCore b = new BoardCore();
        b.put(17, -1);
        CHECKS.same("all", b.register(17), 0xA71F);
        b.put(17, 0);
        CHECKS.same("none", b.register(17), 0);
    }

    private static final int[] WRONG_SIZES = {0, 3, 5, 6, 7, 8, 16, 32, -1, -2, -4, 256 + 1, FAR[0], FAR[1]};

    private static void sizesOfWrite() {
        CHECKS.sentence("The n bytes of v (its lowest ones, the highest of these first) are written from an address "
            + "on. IllegalArgumentException: n is not 1, 2 or 4.");
        for (int n : WRONG_SIZES) {
            CHECKS.refused("write of " + n, IllegalArgumentException.class, b -> b.write(0xC00, 0x55555555, n));
            CHECKS.refused("write of " + n + " at -1", IllegalArgumentException.class, b -> b.write(-1, -1, n));
        }
        int[] row = {0xA1, 0xB2, 0xC3, 0xD4};
        for (int n = 1; n <= 4; n *= 2) {
            BoardCore b = new BoardCore();
            for (int a = 0xBFC; a < 0xC08; a++) {
                b.write(a, 0x77, 1);
            }
            b.write(0xC00, 0xA1B2C3D4, n);
            for (int a = 0xBFC; a < 0xC08; a++) {
                int i = a - 0xC00;
                CHECKS.same("write of " + n + ", byte " + i, b.read(a, 1), i >= 0 && i < n ? row[4 - n + i] : 0x77);
            }
        }
    }

    private static void sizesOfRead() {
        CHECKS.sentence("The n bytes from an address on, as a number without sign, but four as an int. "
            + "IllegalArgumentException: n is not 1, 2 or 4.");
        for (int n : WRONG_SIZES) {
            CHECKS.refused("read of " + n, IllegalArgumentException.class, b -> b.read(0xC00, n));
        }
        BoardCore b = new BoardCore();
        b.write(0, -1, 4);
        CHECKS.same("highest byte", b.read(0, 1), 255);
        CHECKS.same("highest word", b.read(0, 2), 65535);
        CHECKS.same("four as an int", b.read(0, 4), -1);
        b.write(0, 0x80000000, 4);
        CHECKS.same("byte 0x80", b.read(0, 1), 0x80);
        CHECKS.same("word 0x8000", b.read(0, 2), 0x8000);
        CHECKS.same("the lowest int", b.read(0, 4), Integer.MIN_VALUE);
        b.write(0, 0x7FFFFFFF, 4);
        CHECKS.same("the highest int", b.read(0, 4), Integer.MAX_VALUE);
        int sum = b.sum();
        b.read(0, 4);
        CHECKS.same("read changes nothing", b.sum(), sum);
    }

    private static void addressesGoRound() {
        CHECKS.sentence("an address counts modulo 4096");
        int[][] same = {{4096, 0}, {-1, 4095}, {-4096, 0}, {8191, 4095}, {FAR[0], 0}, {FAR[1], 4095}, {-4097, 4095}};
        for (int[] pair : same) {
            BoardCore b = new BoardCore();
            b.write(pair[0], 0x5A, 1);
            CHECKS.same("byte written at " + pair[0], b.read(pair[1], 1), 0x5A);
            CHECKS.same("nothing else", b.sum(), 0x5A * (pair[1] + 1));
            b.write(pair[1], 0xA5, 1);
            CHECKS.same("byte read at " + pair[0], b.read(pair[0], 1), 0xA5);
        }
        int[] bytes = {0x11, 0x22, 0x33, 0x44};
        for (int from = 4093; from <= 4096; from++) {
            BoardCore b = new BoardCore();
            b.write(from, 0x11223344, 4);
            int due = 0;
            for (int i = 0; i < 4; i++) {
                CHECKS.same("long from " + from + ", byte " + i, b.read((from + i) % 4096, 1), bytes[i]);
                due += bytes[i] * ((from + i) % 4096 + 1);
            }
            CHECKS.same("long from " + from + ", nothing else", b.sum(), due);
            CHECKS.same("long from " + from, b.read(from, 4), 0x11223344);
            CHECKS.same("long from " + (from - 4096), b.read(from - 4096, 4), 0x11223344);
        }
        BoardCore b = new BoardCore();
        b.write(FAR[1], 0x1234, 2);
        CHECKS.same("word from the highest address on", b.read(0, 1), 0x34);
        CHECKS.same("word round the end", b.read(4095, 2), 0x1234);
        CHECKS.same("word from -1 on", b.read(-1, 2), 0x1234);
        CHECKS.same("both bytes and no more", b.sum(), 0x12 * 4096 + 0x34);
    }

    private static void noAddressErrors() {
        CHECKS.sentence("A word or long at an odd address is the ADDRESS ERROR "
            + "(of an instruction; read() and write() have none)");
        for (int a = -3; a < 4; a += 2) {
            BoardCore b = new BoardCore();
            b.write(a, 0x1234, 2);
            CHECKS.same("word at " + a, b.read(a, 2), 0x1234);
            b.write(a, 0x89ABCDEF, 4);
            CHECKS.same("long at " + a, b.read(a, 4), 0x89ABCDEF);
            CHECKS.same("no exception", b.exceptions(0), 0);
            CHECKS.same("PC", b.register(16), 0x400);
            CHECKS.same("state", b.state(), 0);
        }
    }

    private static void levels() {
        CHECKS.sentence("IllegalArgumentException: level is not 0 to 7.");
        int[] wrong = {-1, -7, 8, 9, 15, 16, 256 + 7, FAR[0], FAR[1]};
        for (int level : wrong) {
            CHECKS.refused("want " + level, IllegalArgumentException.class, b -> b.want(level));
        }
        for (int level = 0; level < 8; level++) {
            BoardCore b = Board.with(0x4E71);
            b.want(level);
            b.step(1);
            CHECKS.same("want " + level, b.register(16), level == 0 ? 0x402 : Board.vector(24 + level));
            CHECKS.same("how many", b.exceptions(0), level == 0 ? 0 : 1);
        }
    }

    private static void levelInPlaceOfAnother() {
        CHECKS.sentence("An interrupt of a level is wanted, in place of another one; 0: none is.");
        for (int first = 0; first < 8; first++) {
            for (int second = 0; second < 8; second++) {
                BoardCore b = Board.with(0x4E71, 0x4E71, 0x4E71);
                for (int level = 1; level < 8; level++) {
                    Board.code(b, Board.vector(24 + level), 0x4E73);
                }
                b.want(first);
                b.want(second);
                b.step(3);
                CHECKS.same("one at most", b.exceptions(0), second == 0 ? 0 : 1);
                CHECKS.same("the second one", second == 0 ? 0 : b.exceptions(24 + second), second == 0 ? 0 : 1);
            }
        }
    }

    private static void numbersOfSteps() {
        CHECKS.sentence("IllegalArgumentException: n is not 0 to 3000.");
        int[] wrong = {-1, -3000, 3001, 3002, 65536, FAR[0], FAR[1]};
        for (int n : wrong) {
            CHECKS.refused("step " + n, IllegalArgumentException.class, b -> b.step(n));
        }
        int[] right = {0, 1, 2, 2999, 3000};
        for (int n : right) {
            BoardCore b = Board.with(0x5280, 0x60FC);
            CHECKS.same("step " + n, b.step(n), n);
            CHECKS.same("so many instructions", b.register(0), (n + 1) / 2);
        }
        BoardCore b = Board.with(0x4AFC);
        b.want(7);
        int[] before = Board.seen(b);
        CHECKS.same("step 0", b.step(0), 0);
        int[] after = Board.seen(b);
        for (int i = 0; i < before.length; i++) {
            CHECKS.same("step 0 does nothing, part " + i, after[i], before[i]);
        }
        CHECKS.same("step 0 of one that waits", Board.waiting().step(0), 0);
        CHECKS.same("step 0 of one that is halted", Board.halted().step(0), 0);
    }

    private static void interruptsAreSteps() {
        CHECKS.sentence("So many instructions, or interrupts");
        BoardCore b = Board.with(0x5280, 0x60FC);
        Board.code(b, Board.vector(29), 0x5281, 0x4E73);
        b.want(5);
        CHECKS.same("interrupt", b.step(1), 1);
        CHECKS.same("the interrupt alone", b.register(1), 0);
        CHECKS.same("it, too", b.step(1), 1);
        CHECKS.same("then an instruction", b.register(1), 1);
        b.want(7);
        b.reset();
        b.want(5);
        CHECKS.same("interrupt and instructions", b.step(3000), 3000);
        // One interrupt, two instructions behind it: 2997 are left for the loop of two.
        CHECKS.same("the rest are instructions", b.register(0), 1499);
    }

    private static void fewerSteps() {
        CHECKS.sentence("less when the machine waits or is halted. Answers how many (that which halts it, too).");
        BoardCore waits = Board.with(0x4E71, 0x4E71, 0x4E72, 0x2000, 0x4E71);
        CHECKS.same("until it waits", waits.step(3000), 3);
        CHECKS.same("it waits", waits.state(), 1);
        CHECKS.same("none while it waits", waits.step(3000), 0);
        CHECKS.same("PC behind", waits.register(16), 0x408);
        waits.want(1);
        CHECKS.same("all of them when it goes on", waits.step(4), 4);
        BoardCore halts = Board.with(0x4E71, 0x524F, 0x4AFC, 0x4E71);
        CHECKS.same("that which halts it, too", halts.step(3000), 3);
        CHECKS.same("it is halted", halts.state(), 2);
        CHECKS.same("none when it is halted", halts.step(3000), 0);
        BoardCore exact = Board.with(0x4E71, 0x524F, 0x4AFC);
        CHECKS.same("up to it", exact.step(2), 2);
        CHECKS.same("not halted yet", exact.state(), 0);
        CHECKS.same("it alone", exact.step(1), 1);
        CHECKS.same("halted now", exact.state(), 2);
        BoardCore interrupt = Board.with(0x524F, 0x4E71);
        interrupt.step(1);
        interrupt.want(2);
        CHECKS.same("an interrupt which halts it, too", interrupt.step(2), 1);
        CHECKS.same("halted by an interrupt", interrupt.state(), 2);
    }

    private static void states() {
        CHECKS.sentence("0 it goes on, 1 it waits, 2 it is halted (until reset).");
        CHECKS.same("new", new BoardCore().state(), 0);
        BoardCore w = Board.waiting();
        CHECKS.same("waits", w.state(), 1);
        w.put(16, 0x600);
        w.put(17, 0x2700);
        w.write(0x600, 0x4E71, 2);
        CHECKS.same("no put and write wakes it", w.step(1), 0);
        w.want(6);
        CHECKS.same("no level below the mask", w.step(1), 0);
        CHECKS.same("waits still", w.state(), 1);
        w.want(7);
        CHECKS.same("wanted only: waits", w.state(), 1);
        CHECKS.same("the interrupt", w.step(1), 1);
        CHECKS.same("goes on", w.state(), 0);
        BoardCore h = Board.halted();
        CHECKS.same("halted", h.state(), 2);
        h.put(19, 0x700);
        h.put(16, 0x400);
        h.write(0x400, 0x4E71, 2);
        h.want(7);
        CHECKS.same("no put, write and want wakes it", h.step(3000), 0);
        CHECKS.same("halted still", h.state(), 2);
        CHECKS.same("nothing was done", h.exceptions(0), 0);
        h.reset();
        CHECKS.same("until reset", h.state(), 0);
        CHECKS.same("then it makes steps", h.step(1), 1);
    }

    private static void numbersOfExceptions() {
        CHECKS.sentence("IllegalArgumentException: n is not 0 to 63.");
        int[] wrong = {-1, -63, 64, 65, 128, 256 + 3, FAR[0], FAR[1]};
        for (int n : wrong) {
            CHECKS.refused("exceptions " + n, IllegalArgumentException.class, b -> b.exceptions(n));
        }
        BoardCore b = Board.used();
        for (int n = 0; n < 64; n++) {
            CHECKS.same("exceptions " + n, b.exceptions(n), n == 0 || n == 35 ? 1 : 0);
        }
    }

    private static void countsOfExceptions() {
        CHECKS.sentence("How many exceptions were done since the last reset, of one number; with 0 of all.");
        // Each kind twice: a word, the number of its exception, a second word.
        int[][] kinds = {
            {0x3038, 3, 0x0001}, {0x4AFC, 4, 0}, {0x80FC, 5, 0}, {0x41BC, 6, 0xFFF0}, {0x4E76, 7, 0},
            {0xA123, 10, 0}, {0xF123, 11, 0},
        };
        for (int[] kind : kinds) {
            BoardCore b = Board.with(kind[0], kind[2]);
            b.put(0, 5);
            for (int times = 1; times < 3; times++) {
                b.put(16, 0x400);
                b.put(17, 0x2002);
                b.step(1);
                CHECKS.same("of " + kind[1], b.exceptions(kind[1]), times);
                CHECKS.same("of all", b.exceptions(0), times);
            }
        }
        BoardCore all = Board.with();
        for (int v = 0; v < 16; v++) {
            Board.code(all, 0x400 + 2 * v, 0x4E40 | v);
            Board.code(all, Board.vector(32 + v), 0x4E73);
        }
        all.step(32);
        for (int n = 1; n < 64; n++) {
            CHECKS.same("one of each of 32 to 47: " + n, all.exceptions(n), n >= 32 && n < 48 ? 1 : 0);
        }
        CHECKS.same("of all numbers together", all.exceptions(0), 16);
        all.reset();
        CHECKS.same("since the last reset", all.exceptions(0), 0);
        all.step(1);
        CHECKS.same("the first one since then", all.exceptions(32), 1);
        BoardCore many = Board.with(0x4E40, 0x60FC);
        Board.code(many, Board.vector(32), 0x4E73);
        for (int i = 0; i < 300; i++) {
            many.step(3000);
        }
        CHECKS.same("many", many.exceptions(32), 300000);
        CHECKS.same("many of all", many.exceptions(0), 300000);
        CHECKS.same("that which halts is not done", Board.halted().exceptions(0), 0);
    }

    private static void sums() {
        CHECKS.sentence("A sum over memory: of each byte, times its address and 1, as an int.");
        for (int a = 0; a < 4096; a++) {
            BoardCore b = new BoardCore();
            b.write(a, 255, 1);
            CHECKS.same("byte at " + a, b.sum(), 255 * (a + 1));
            b.write(a, 128, 1);
            CHECKS.same("byte 128 at " + a, b.sum(), 128 * (a + 1));
        }
        BoardCore b = full();
        CHECKS.same("memory is full", b.read(0x400, 4) & b.read(0x404, 4) & b.read(0, 4) & b.read(-4, 4), -1);
        // The largest sum that there can be: it is still an int.
        CHECKS.same("all bytes 255", b.sum(), 255L * (4096L * 4097 / 2));
        CHECKS.same("once more", b.sum(), 2139617280);
    }

    /** All bytes 255; 512 calls do not reach for that, so that a program does most of it. */
    private static BoardCore full() {
        BoardCore b = new BoardCore();
        // -1 to D1, 1023 to D0; D1 to (A0)+, D0 counts down.
        Board.code(b, 0x400, 0x72FF, 0x303C, 1023 - 5, 0x20C1, 0x51C8, 0xFFFC);
        b.put(8, 0x414);
        b.step(3 + 2 * (1023 - 5));
        for (int a = 0x400; a < 0x418; a += 4) {
            b.write(a, -1, 4);
        }
        return b;
    }

    private static void refusedCallsChangeNothing() {
        CHECKS.sentence("Methods throw what their comments name; a call that throws changes nothing.");
        CHECKS.refused("register", IndexOutOfBoundsException.class, b -> b.register(20));
        CHECKS.refused("put", IndexOutOfBoundsException.class, b -> b.put(-1, 7));
        CHECKS.refused("write", IllegalArgumentException.class, b -> b.write(0xC00, 7, 3));
        CHECKS.refused("read", IllegalArgumentException.class, b -> b.read(0xC00, 3));
        CHECKS.refused("want", IllegalArgumentException.class, b -> b.want(8));
        CHECKS.refused("step", IllegalArgumentException.class, b -> b.step(3001));
        CHECKS.refused("exceptions", IllegalArgumentException.class, b -> b.exceptions(64));
    }
}
