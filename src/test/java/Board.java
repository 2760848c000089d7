/** Small ways to set up a board and to look at it. */
final class Board {
    static final int PC = 16;
    static final int SR = 17;
    static final int USP = 18;
    static final int SSP = 19;

    static final int C = 1;
    static final int V = 2;
    static final int Z = 4;
    static final int N = 8;
    static final int X = 16;
    static final int S = 0x2000;
    static final int T = 0x8000;

    // Places of memory that seen reads one by one: the ends, and where the tests write.
    private static final int[] LOOKED_AT = {-8, -4, 0, 4, 8, 0x3F8, 0x3FC, 0x400, 0x404, 0xC00, 0xC04};

    private Board() {
    }

    /** A new board with these words from 0x400 on, and each vector n at 0x800 + 16 n. */
    static BoardCore with(int... words) {
        BoardCore b = new BoardCore();
        for (int n = 1; n < 64; n++) {
            b.write(4 * n, 0x800 + 16 * n, 4);
        }
        code(b, 0x400, words);
        return b;
    }

    static void code(BoardCore b, int address, int... words) {
        for (int i = 0; i < words.length; i++) {
            b.write(address + 2 * i, words[i], 2);
        }
    }

    /** A board with something in every part: registers, memory, an exception, a wanted interrupt. */
    static BoardCore used() {
        BoardCore b = with(0x4E43);
        b.step(1);
        for (int k = 0; k < 16; k++) {
            b.put(k, 0x500 + 6 * k);
        }
        b.put(USP, 0x7F0);
        b.put(SR, S | 0x0315);
        b.want(4);
        return b;
    }

    static BoardCore waiting() {
        BoardCore b = with(0x4E72, 0x2312);
        b.step(1);
        return b;
    }

    static BoardCore halted() {
        BoardCore b = with(0x4E40);
        b.put(SSP, 0x701);
        b.step(1);
        return b;
    }

    static int vector(int n) {
        return 0x800 + 16 * n;
    }

    static int flags(BoardCore b) {
        return b.register(SR) & 0x1F;
    }

    /** What can be seen with few calls: registers, state, counts, and memory by its sum and some places. */
    static int[] seen(BoardCore b) {
        int[] seen = new int[20 + 1 + 64 + 1 + LOOKED_AT.length];
        int at = 0;
        for (int k = 0; k < 20; k++) {
            seen[at++] = b.register(k);
        }
        seen[at++] = b.state();
        for (int n = 0; n < 64; n++) {
            seen[at++] = b.exceptions(n);
        }
        seen[at++] = b.sum();
        for (int address : LOOKED_AT) {
            seen[at++] = b.read(address, 4);
        }
        return seen;
    }
}
