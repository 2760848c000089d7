import java.util.function.IntBinaryOperator;

/** Promise 8: sums, differences, logic, products and quotients, with their flags. */
public final class ArithmeticTest {
    private static final Checks CHECKS = new Checks();
    private static final int[] BITS = {8, 16, 32};
    private static final int[] EDGES = {
        0, 1, 2, 0x7E, 0x7F, 0x80, 0x81, 0xFF, 0x7FFF, 0x8000, 0x8001, 0xFFFF, 0x10000, 0x12345678,
        0x7FFFFFFF, 0x80000000, 0x80000001, 0xFFFFFF80, 0xFFFF8000, 0xFFFFFFFE, 0xFFFFFFFF, 0x00FF00FF, 0xA5A5A5A5,
    };

    private ArithmeticTest() {
    }

    public static void main(String[] args) {
        sums();
        withX();
        logic();
        singles();
        otherForms();
        addresses();
        products();
        quotients();
        CHECKS.end();
    }

    private static long unsigned(int v, int bits) {
        return v & (1L << bits) - 1;
    }

    private static long signed(int v, int bits) {
        return (long) v << 64 - bits >> 64 - bits;
    }

    /** The flags of a +- b +- x, told by the numbers themselves. */
    private static int flagsOf(int a, int b, int x, boolean less, int bits) {
        long u = less ? unsigned(a, bits) - unsigned(b, bits) - x : unsigned(a, bits) + unsigned(b, bits) + x;
        long s = less ? signed(a, bits) - signed(b, bits) - x : signed(a, bits) + signed(b, bits) + x;
        int flags = 0;
        flags |= signed((int) u, bits) < 0 ? Board.N : 0;
        flags |= unsigned((int) u, bits) == 0 ? Board.Z : 0;
        flags |= s != signed((int) u, bits) ? Board.V : 0;
        flags |= u != unsigned((int) u, bits) ? Board.C | Board.X : 0;
        return flags;
    }

    private static int logicFlags(int v, int bits, int before) {
        int flags = before & Board.X;
        flags |= signed(v, bits) < 0 ? Board.N : 0;
        flags |= unsigned(v, bits) == 0 ? Board.Z : 0;
        return flags;
    }

    private static int merged(int old, int v, int bits) {
        int mask = (int) ((1L << bits) - 1);
        return old & ~mask | v & mask;
    }

    private static BoardCore board;

    /** One instruction on D0 and D1 with these flags before it. */
    private static void run(int word, int d0, int d1, int flags) {
        board = new BoardCore();
        board.write(0x400, word, 2);
        board.put(0, d0);
        board.put(1, d1);
        board.put(17, 0x2000 | flags);
        board.step(1);
        CHECKS.same("PC behind " + Integer.toHexString(word), board.register(16), 0x402);
    }

    private static void look(String what, int k, int value, int flags) {
        CHECKS.same(what, board.register(k), value);
        CHECKS.same(what + " flags", Board.flags(board), flags);
    }

    private static void sum(int s, int a, int b, int before) {
        int bits = BITS[s];
        String what = Integer.toHexString(a) + " and " + Integer.toHexString(b) + " of " + bits;
        run(0xD200 | s << 6, b, a, before);
        look("sum " + what, 1, merged(a, a + b, bits), flagsOf(a, b, 0, false, bits));
        run(0x9200 | s << 6, b, a, before);
        look("difference " + what, 1, merged(a, a - b, bits), flagsOf(a, b, 0, true, bits));
        run(0xB200 | s << 6, b, a, before);
        look("compared " + what, 1, a, flagsOf(a, b, 0, true, bits) & 15 | before & Board.X);
    }

    private static void sums() {
        for (int a = 0; a < 256; a++) {
            for (int b = 0; b < 256; b += a % 8 == 0 ? 1 : 15) {
                sum(0, a | 0x5500, b | 0xAA00, (a + b) % 32);
            }
        }
        for (int s = 0; s < 3; s++) {
            for (int a : EDGES) {
                for (int b : EDGES) {
                    sum(s, a, b, 0);
                    sum(s, a, b, 31);
                }
            }
        }
    }

    private static void pairWithX(int s, int a, int b, int before) {
        int bits = BITS[s];
        int x = before >>> 4;
        int keep = ~Board.Z | before & Board.Z;
        run(0xD300 | s << 6, b, a, before);
        look("sum with X", 1, merged(a, a + b + x, bits), flagsOf(a, b, x, false, bits) & keep);
        run(0x9300 | s << 6, b, a, before);
        look("difference with X", 1, merged(a, a - b - x, bits), flagsOf(a, b, x, true, bits) & keep);
    }

    private static void withX() {
        int[] befores = {0, Board.X, Board.Z, Board.X | Board.Z, 31};
        for (int before : befores) {
            for (int s = 0; s < 3; s++) {
                for (int a : EDGES) {
                    for (int b : EDGES) {
                        pairWithX(s, a, b, before);
                    }
                }
            }
        }
        for (int s = 0; s < 3; s++) {
            int n = BITS[s] / 8;
            BoardCore b = Board.with(0xD308 | s << 6 | 2, 0x9308 | s << 6 | 2, 0xD30A | s << 6);
            b.put(10, 0xC00 + 2 * n);
            b.put(9, 0xD00 + 2 * n);
            b.write(0xC00 + n, 3, n);
            b.write(0xC00, 2, n);
            b.write(0xD00 + n, 5, n);
            b.write(0xD00, 9, n);
            b.put(17, 0x2000 | Board.X);
            b.step(1);
            CHECKS.same("sum at -(Ay), -(Ar)", b.read(0xD00 + n, n), 9);
            CHECKS.same("Ay", b.register(10), 0xC00 + n);
            CHECKS.same("Ar", b.register(9), 0xD00 + n);
            b.step(1);
            CHECKS.same("difference at -(Ay), -(Ar)", b.read(0xD00, n), 7);
            b.put(10, 0xC00 + 2 * n);
            b.put(9, 0xC00 + 2 * n);
            b.put(16, 0x404);
            b.write(0x404, 0xD509 + (s << 6) + 1, 2);
            b.step(1);
            CHECKS.same("Ay is Ar: twice down", b.register(10), 0xC00);
            CHECKS.same("Ay is Ar: sum", b.read(0xC00, n), 5);
        }
        BoardCore t = Board.with(0xDF0F);
        t.put(15, 0xC08);
        t.step(1);
        CHECKS.same("bytes below A7, twice", t.register(15), 0xC04);
    }

    private static void logic() {
        IntBinaryOperator[] ways = {(a, b) -> a | b, (a, b) -> a & b, (a, b) -> a ^ b};
        int[] toD1 = {0x8200, 0xC200, 0xB101};
        for (int w = 0; w < 3; w++) {
            for (int s = 0; s < 3; s++) {
                for (int a : EDGES) {
                    for (int b : EDGES) {
                        int before = (a + b) & 31;
                        int v = ways[w].applyAsInt(a, b);
                        run(toD1[w] | s << 6, b, a, before);
                        look("logic " + w, 1, merged(a, v, BITS[s]), logicFlags(v, BITS[s], before));
                    }
                }
            }
        }
    }

    private static void singles() {
        for (int s = 0; s < 3; s++) {
            int bits = BITS[s];
            for (int a : EDGES) {
                for (int before = 0; before < 32; before++) {
                    int x = before >>> 4;
                    run(0x4000 | s << 6, a, 0, before);
                    int keep = ~Board.Z | before & Board.Z;
                    look("0 less it with X", 0, merged(a, -a - x, bits), flagsOf(0, a, x, true, bits) & keep);
                    run(0x4200 | s << 6, a, 0, before);
                    look("cleared", 0, merged(a, 0, bits), before & Board.X | Board.Z);
                    run(0x4400 | s << 6, a, 0, before);
                    look("0 less it", 0, merged(a, -a, bits), flagsOf(0, a, 0, true, bits));
                    run(0x4600 | s << 6, a, 0, before);
                    look("turned", 0, merged(a, ~a, bits), logicFlags(~a, bits, before));
                    run(0x4A00 | s << 6, a, 0, before);
                    look("looked at", 0, a, logicFlags(a, bits, before));
                }
                run(0x2200, a, 0, 31);
                look("moved", 1, a, logicFlags(a, 32, 31));
            }
        }
        BoardCore tas = Board.with(0x4AC0, 0x4AC0, 0x4AD1);
        tas.put(0, 0x1200);
        tas.put(17, 0x201B);
        tas.put(9, 0xC01);
        tas.step(1);
        CHECKS.same("highest bit is 1", tas.register(0), 0x1280);
        CHECKS.same("flags of what it was", Board.flags(tas), Board.X | Board.Z);
        tas.step(1);
        CHECKS.same("flags of what it was then", Board.flags(tas), Board.X | Board.N);
        tas.step(1);
        CHECKS.same("in memory", tas.read(0xC00, 4), 0x00800000);
    }

    /** The same results by immediate and small numbers, and back to memory. */
    private static void otherForms() {
        int[] words = {0x0000, 0x0200, 0x0400, 0x0600, 0x0A00, 0x0C00};
        for (int s = 0; s < 3; s++) {
            int n = BITS[s] / 8;
            int bits = BITS[s];
            for (int a : EDGES) {
                for (int v : EDGES) {
                    int[] dues = {a | v, a & v, a - v, a + v, a ^ v, a};
                    for (int i = 0; i < 6; i++) {
                        board = new BoardCore();
                        board.write(0x400, words[i] | s << 6 | 0x11, 2);
                        board.write(0x402, s == 2 ? v : v << 16, 4);
                        board.put(9, 0xC00);
                        board.write(0xC00, a, n);
                        board.put(17, 0x2013);
                        board.step(1);
                        CHECKS.same("immediate " + i, board.read(0xC00, n), (int) unsigned(dues[i], bits));
                        int sumFlags = flagsOf(a, v, 0, i != 3, bits);
                        int flags = i == 5 ? sumFlags & 15 | Board.X
                            : i == 2 || i == 3 ? sumFlags : logicFlags(dues[i], bits, 16);
                        CHECKS.same("immediate flags " + i, Board.flags(board), flags);
                        CHECKS.same("immediate PC", board.register(16), s == 2 ? 0x406 : 0x404);
                    }
                    toMemory(s, a, v);
                }
                quick(s, a);
            }
        }
    }

    private static void toMemory(int s, int a, int d) {
        int[] words = {0x8100, 0xC100, 0x9100, 0xD100, 0xB100};
        int[] dues = {a | d, a & d, a - d, a + d, a ^ d};
        int n = BITS[s] / 8;
        for (int i = 0; i < 5; i++) {
            board = new BoardCore();
            board.write(0x400, words[i] | s << 6 | 0x19, 2);
            board.put(0, d);
            board.put(9, 0xC00);
            board.write(0xC00, a, n);
            board.step(1);
            CHECKS.same("to memory " + i, board.read(0xC00, n), (int) unsigned(dues[i], BITS[s]));
            boolean sums = i == 2 || i == 3;
            int due = sums ? flagsOf(a, d, 0, i == 2, BITS[s]) : logicFlags(dues[i], BITS[s], 0);
            CHECKS.same("to memory flags " + i, Board.flags(board), due);
            CHECKS.same("to memory Dr", board.register(0), d);
        }
    }

    private static void quick(int s, int a) {
        for (int r = 0; r < 8; r++) {
            int v = r == 0 ? 8 : r;
            run(0x5000 | r << 9 | s << 6, a, 0, 0);
            look("quick sum", 0, merged(a, a + v, BITS[s]), flagsOf(a, v, 0, false, BITS[s]));
            run(0x5100 | r << 9 | s << 6, a, 0, 0);
            look("quick difference", 0, merged(a, a - v, BITS[s]), flagsOf(a, v, 0, true, BITS[s]));
            if (s == 0) {
                continue;
            }
            for (int t = 0; t < 2; t++) {
                board = new BoardCore();
                board.write(0x400, 0x5008 | t << 8 | r << 9 | s << 6, 2);
                board.put(8, a);
                board.put(17, 0x201F);
                board.step(1);
                look("quick of a long Ay", 8, t == 0 ? a + v : a - v, 31);
            }
        }
    }

    private static void addresses() {
        for (int a : EDGES) {
            for (int v : EDGES) {
                for (int t = 0; t < 2; t++) {
                    int source = t == 0 ? (short) v : v;
                    int[] words = {0x92C0, 0xD2C0, 0xB2C0};
                    int[] dues = {a - source, a + source, a};
                    for (int i = 0; i < 3; i++) {
                        board = new BoardCore();
                        board.write(0x400, words[i] | t << 8, 2);
                        board.put(0, v);
                        board.put(9, a);
                        board.put(17, 0x2015);
                        board.step(1);
                        int flags = i == 2 ? flagsOf(a, source, 0, true, 32) & 15 | Board.X : 0x15;
                        look("address " + i, 9, dues[i], flags);
                    }
                }
            }
        }
        for (int s = 0; s < 3; s++) {
            int n = BITS[s] / 8;
            BoardCore b = Board.with(0xB308 | s << 6 | 2, 0xBF0F | s << 6);
            b.put(10, 0xC00);
            b.put(9, 0xD00);
            b.write(0xC00, 5, n);
            b.write(0xD00, 3, n);
            b.put(17, 0x2000);
            b.step(1);
            CHECKS.same("the second compared with the first", Board.flags(b), Board.N | Board.C);
            CHECKS.same("Ay up", b.register(10), 0xC00 + n);
            CHECKS.same("Ar up", b.register(9), 0xD00 + n);
            b.put(15, 0xE00);
            b.step(1);
            CHECKS.same("A7 twice up", b.register(15), 0xE00 + (n == 1 ? 4 : 2 * n));
        }
    }

    private static void products() {
        for (int a : EDGES) {
            for (int v : EDGES) {
                int u = (int) ((long) (a & 0xFFFF) * (v & 0xFFFF));
                run(0xC2C0, v, a, 31);
                look("product without signs", 1, u, logicFlags(u, 32, 31));
                int s = (short) a * (short) v;
                run(0xC3C0, v, a, 31);
                look("product with signs", 1, s, logicFlags(s, 32, 31));
            }
        }
    }

    private static void quotients() {
        for (int a : EDGES) {
            for (int v : EDGES) {
                for (int before = 0; before < 32; before += 31) {
                    quotient(a, v, before, false);
                    quotient(a, v, before, true);
                }
            }
        }
        BoardCore b = Board.with(0x82D9);
        b.put(9, 0xC00);
        b.put(17, 0x201F);
        b.put(1, 77);
        b.step(1);
        CHECKS.same("by 0: exception 5", b.exceptions(5), 1);
        CHECKS.same("by 0: C is 0, the others stay", b.read(0x3FA, 2), 0x201E);
        CHECKS.same("by 0: PC behind it", b.read(0x3FC, 4), 0x402);
        CHECKS.same("by 0: A1 has gone up", b.register(9), 0xC02);
        CHECKS.same("by 0: Dr stays", b.register(1), 77);
    }

    private static void quotient(int a, int v, int before, boolean signs) {
        long part = signs ? (short) v : v & 0xFFFF;
        if (part == 0) {
            return;
        }
        long whole = signs ? a : a & 0xFFFFFFFFL;
        long q = whole / part;
        long rest = whole - q * part;
        boolean fits = signs ? q >= -32768 && q <= 32767 : q <= 65535;
        run(signs ? 0x83C0 : 0x82C0, v, a, before);
        if (fits) {
            look("quotient", 1, (int) (rest << 16 | q & 0xFFFF), logicFlags((int) q, 16, before));
        } else {
            look("no word", 1, a, before & ~Board.C | Board.V);
        }
    }
}
