/** Promises 1 to 11 as far as the calls themselves go: ordinary inputs, edges, wrong inputs. */
public final class FaceTest {
    private static final Checks CHECKS = new Checks();

    private FaceTest() {
    }

    public static void main(String[] args) {
        newObject();
        reset();
        registers();
        memory();
        want();
        step();
        state();
        exceptions();
        sum();
        CHECKS.end();
    }

    private static void fresh(String what, BoardCore b) {
        for (int k = 0; k < 20; k++) {
            int due = k == 15 || k == 16 || k == 19 ? 0x400 : k == 17 ? 0x2000 : 0;
            CHECKS.same(what + " register " + k, b.register(k), due);
        }
        CHECKS.same(what + " state", b.state(), 0);
        for (int n = 0; n < 64; n++) {
            CHECKS.same(what + " exceptions " + n, b.exceptions(n), 0);
        }
    }

    private static void newObject() {
        BoardCore b = new BoardCore();
        fresh("new", b);
        CHECKS.same("new memory", b.sum(), 0);
        CHECKS.same("first bytes", b.read(0, 4), 0);
        CHECKS.same("last bytes", b.read(4092, 4), 0);
        BoardCore other = new BoardCore();
        b.put(0, 1);
        b.write(0, 1, 1);
        CHECKS.same("objects share no register", other.register(0), 0);
        CHECKS.same("objects share no memory", other.read(0, 1), 0);
    }

    private static void reset() {
        BoardCore b = Board.with(0x4E40, 0x4E71);
        b.step(1);
        for (int k = 0; k < 20; k++) {
            b.put(k, -1);
        }
        b.put(Board.SR, 0x0700);
        b.want(3);
        int sum = b.sum();
        int vector = b.read(4 * 32, 4);
        b.reset();
        fresh("reset", b);
        CHECKS.same("reset leaves memory", b.sum(), sum);
        CHECKS.same("reset leaves a long", b.read(4 * 32, 4), vector);
        Board.code(b, 0x400, 0x4E71);
        b.step(1);
        CHECKS.same("reset: no interrupt is wanted any more", b.register(Board.PC), 0x402);
        b.put(Board.SSP, 0x3FF);
        b.put(Board.PC, 1);
        b.step(1);
        CHECKS.same("halted", b.state(), 2);
        b.reset();
        fresh("reset of a halted one", b);
    }

    private static void registers() {
        BoardCore b = new BoardCore();
        for (int k = 0; k < 15; k++) {
            b.put(k, 0x81234567 + k);
        }
        b.put(Board.PC, -1);
        b.put(Board.USP, 77);
        b.put(Board.SSP, 99);
        for (int k = 0; k < 15; k++) {
            CHECKS.same("register " + k, b.register(k), 0x81234567 + k);
        }
        CHECKS.same("PC", b.register(Board.PC), -1);
        CHECKS.same("A7 of the supervisor", b.register(15), 99);
        b.put(15, 101);
        CHECKS.same("A7 is the supervisor's", b.register(Board.SSP), 101);
        CHECKS.same("and not the user's", b.register(Board.USP), 77);
        b.put(Board.SR, 0);
        CHECKS.same("A7 of the user", b.register(15), 77);
        b.put(15, 55);
        CHECKS.same("A7 is the user's", b.register(Board.USP), 55);
        CHECKS.same("and not the supervisor's", b.register(Board.SSP), 101);
        b.put(Board.SSP, 103);
        CHECKS.same("supervisor's, put by the user", b.register(Board.SSP), 103);
        b.put(Board.USP, 57);
        CHECKS.same("user's, put by the user", b.register(15), 57);
        b.put(Board.SR, -1);
        CHECKS.same("SR has only its bits", b.register(Board.SR), 0xA71F);
        CHECKS.same("A7 back again", b.register(15), 103);
        for (int bit = 0; bit < 32; bit++) {
            b.put(Board.SR, 1 << bit);
            CHECKS.same("SR bit " + bit, b.register(Board.SR), 1 << bit & 0xA71F);
        }
        int[] wrong = {-1, 20, 21, 32, Integer.MAX_VALUE, Integer.MIN_VALUE};
        for (int k : wrong) {
            CHECKS.refused("register " + k, IndexOutOfBoundsException.class, x -> x.register(k));
            CHECKS.refused("put " + k, IndexOutOfBoundsException.class, x -> x.put(k, 5));
        }
    }

    private static void memory() {
        BoardCore b = new BoardCore();
        b.write(10, 0x89ABCDEF, 4);
        CHECKS.same("long", b.read(10, 4), 0x89ABCDEF);
        CHECKS.same("word", b.read(10, 2), 0x89AB);
        CHECKS.same("odd word", b.read(11, 2), 0xABCD);
        CHECKS.same("byte", b.read(13, 1), 0xEF);
        b.write(11, 0x12345678, 2);
        CHECKS.same("two lowest bytes", b.read(10, 4), 0x895678EF);
        b.write(11, 0x1234FFFE, 1);
        CHECKS.same("lowest byte", b.read(10, 4), 0x89FE78EF);
        b.write(4095, 0x01020304, 4);
        CHECKS.same("goes round", b.read(0, 1) << 16 | b.read(1, 1) << 8 | b.read(2, 1), 0x020304);
        CHECKS.same("round long", b.read(-1, 4), 0x01020304);
        CHECKS.same("modulo 4096", b.read(4095 + 4096 * 7, 2), 0x0102);
        b.write(Integer.MIN_VALUE, 0x55, 1);
        CHECKS.same("lowest address is 0", b.read(0, 1), 0x55);
        b.write(Integer.MAX_VALUE, 0x6677, 2);
        CHECKS.same("highest address is 4095", b.read(4095, 2), 0x6677);
        int[] wrong = {0, 3, 5, 8, -1, -2, Integer.MIN_VALUE};
        for (int n : wrong) {
            CHECKS.refused("write of " + n, IllegalArgumentException.class, x -> x.write(0, -1, n));
            CHECKS.refused("read of " + n, IllegalArgumentException.class, x -> x.read(0, n));
        }
    }

    private static void want() {
        BoardCore b = Board.with(0x4E71, 0x4E71);
        b.want(3);
        b.want(0);
        b.step(1);
        CHECKS.same("0: none is wanted", b.register(Board.PC), 0x402);
        b.want(5);
        b.want(2);
        int[] wrong = {-1, 8, 9, Integer.MAX_VALUE, Integer.MIN_VALUE};
        for (int level : wrong) {
            CHECKS.refused("want " + level, IllegalArgumentException.class, x -> x.want(level));
        }
        b.step(1);
        CHECKS.same("the last one wanted", b.exceptions(26), 1);
        CHECKS.same("in place of the other one", b.exceptions(29), 0);
    }

    private static void step() {
        BoardCore b = Board.with();
        CHECKS.same("step 0", b.step(0), 0);
        CHECKS.same("step 0 does nothing", b.register(Board.PC), 0x400);
        b.want(7);
        CHECKS.same("step 0 with an interrupt", b.step(0), 0);
        CHECKS.same("step 0 does none", b.exceptions(0), 0);
        b.want(0);
        b.write(0x400, 0x60FE, 2);
        CHECKS.same("step 3000", b.step(3000), 3000);
        CHECKS.same("runs in place", b.register(Board.PC), 0x400);
        int[] wrong = {-1, 3001, Integer.MAX_VALUE, Integer.MIN_VALUE};
        for (int n : wrong) {
            CHECKS.refused("step " + n, IllegalArgumentException.class, x -> x.step(n));
        }
    }

    private static void state() {
        BoardCore b = Board.with(0x4E72, 0x2000);
        CHECKS.same("goes on", b.state(), 0);
        CHECKS.same("less when it waits", b.step(9), 1);
        CHECKS.same("waits", b.state(), 1);
        CHECKS.same("waits on", b.step(9), 0);
        b.want(1);
        b.put(15, 0x301);
        CHECKS.same("that which halts it counts", b.step(9), 1);
        CHECKS.same("halted", b.state(), 2);
        b.put(15, 0x300);
        b.want(7);
        CHECKS.same("halted until reset", b.step(9), 0);
        CHECKS.same("still halted", b.state(), 2);
        b.reset();
        CHECKS.same("goes on after reset", b.state(), 0);
    }

    private static void exceptions() {
        BoardCore b = Board.with(0x4E40, 0x4E41);
        Board.code(b, Board.vector(32), 0x4E73);
        Board.code(b, Board.vector(33), 0x4E4F);
        Board.code(b, Board.vector(47), 0x4AFC);
        b.want(7);
        Board.code(b, Board.vector(31), 0x4E73);
        CHECKS.same("steps", b.step(7), 7);
        CHECKS.same("interrupt", b.exceptions(31), 1);
        CHECKS.same("trap 0", b.exceptions(32), 1);
        CHECKS.same("trap 1", b.exceptions(33), 1);
        CHECKS.same("trap 15", b.exceptions(47), 1);
        CHECKS.same("illegal", b.exceptions(4), 1);
        CHECKS.same("all", b.exceptions(0), 5);
        CHECKS.same("none of 63", b.exceptions(63), 0);
        int[] wrong = {-1, 64, Integer.MAX_VALUE, Integer.MIN_VALUE};
        for (int n : wrong) {
            CHECKS.refused("exceptions " + n, IllegalArgumentException.class, x -> x.exceptions(n));
        }
        b.reset();
        CHECKS.same("none since the reset", b.exceptions(0), 0);
    }

    private static void sum() {
        BoardCore b = new BoardCore();
        b.write(0, 1, 1);
        CHECKS.same("first byte", b.sum(), 1);
        b.write(4095, 255, 1);
        CHECKS.same("last byte, without sign", b.sum(), 1 + 255 * 4096);
        int due = 1 + 255 * 4096;
        for (int a = 1; a < 4095; a += 13) {
            b.write(a, a, 1);
            due += (a & 255) * (a + 1);
        }
        CHECKS.same("bytes all over", b.sum(), due);
        BoardCore c = Board.with(0x13FC, 0x00FE, 0x0000, 0x0E00);
        int before = c.sum();
        c.step(1);
        CHECKS.same("bytes that an instruction writes", c.sum() - before, 0xFE * 0xE01);
        BoardCore full = new BoardCore();
        for (int a = 4096 - 1600; a < 4096; a += 4) {
            full.write(a, -1, 4);
        }
        CHECKS.same("bytes of 255", full.sum(), 255 * (4096 * 4097 / 2 - 2496 * 2497 / 2));
    }
}
