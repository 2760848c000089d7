/** Promise 8: shifts, told here by rows of bits rather than by numbers. */
public final class ShiftTest {
    private static final Checks CHECKS = new Checks();
    private static final int[] VALUES = {
        0, 1, 2, 0x40, 0x7F, 0x80, 0x81, 0xFF, 0x4000, 0x7FFF, 0x8000, 0xC001, 0xFFFF,
        0x40000000, 0x80000000, 0x80000001, 0xFFFFFFFF, 0x12345678, 0xA5A5A5A5, 0x5A5A5A5A,
    };

    private static int flags;

    private ShiftTest() {
    }

    public static void main(String[] args) {
        byRegister();
        byNumber();
        inMemory();
        CHECKS.end();
    }

    /** What is due; its flags are left in flags. */
    private static int due(int v, int bits, int times, int type, boolean left, int before) {
        boolean[] row = new boolean[bits];
        for (int i = 0; i < bits; i++) {
            row[i] = (v >>> i & 1) != 0;
        }
        boolean x = (before & Board.X) != 0;
        boolean c = type == 2 && x;
        boolean over = false;
        int from = left ? bits - 1 : 0;
        int to = left ? 0 : bits - 1;
        for (int t = 0; t < times; t++) {
            boolean high = row[bits - 1];
            boolean out = row[from];
            for (int i = 0; i < bits - 1; i++) {
                int at = left ? bits - 1 - i : i;
                row[at] = row[left ? at - 1 : at + 1];
            }
            row[to] = type == 0 ? !left && high : type == 2 ? x : type == 3 && out;
            x = type == 3 ? x : out;
            c = out;
            over |= row[bits - 1] != high;
        }
        int result = 0;
        for (int i = 0; i < bits; i++) {
            result |= row[i] ? 1 << i : 0;
        }
        flags = (c ? Board.C : 0) | (x ? Board.X : 0) | (row[bits - 1] ? Board.N : 0) | (result == 0 ? Board.Z : 0);
        flags |= type == 0 && left && over ? Board.V : 0;
        return result;
    }

    private static BoardCore board;

    private static void look(int word, int v, int count, int times, int before) {
        int bits = 8 << (word >>> 6 & 3);
        board = new BoardCore();
        board.write(0x400, word, 2);
        board.put(0, v);
        board.put(1, count);
        board.put(17, 0x2000 | before);
        board.step(1);
        int mask = (int) ((1L << bits) - 1);
        int result = due(v, bits, times, word >>> 3 & 3, (word & 0x100) != 0, before);
        String what = Integer.toHexString(word) + " of " + Integer.toHexString(v) + " by " + times;
        CHECKS.same(what, board.register(0), v & ~mask | result);
        CHECKS.same(what + " flags", Board.flags(board), flags);
    }

    private static void byRegister() {
        for (int form = 0; form < 24; form++) {
            int word = 0xE220 | (form & 3) << 3 | (form >>> 2 & 1) << 8 | form / 8 << 6;
            for (int v : VALUES) {
                for (int times = 0; times < 64; times++) {
                    look(word, v, times, times, 0);
                    look(word, v, times | 0xABCDEF40, times, 31);
                }
            }
        }
    }

    private static void byNumber() {
        for (int form = 0; form < 24; form++) {
            for (int r = 0; r < 8; r++) {
                int word = 0xE000 | r << 9 | (form & 3) << 3 | (form >>> 2 & 1) << 8 | form / 8 << 6;
                for (int v : VALUES) {
                    look(word, v, 99, r == 0 ? 8 : r, 0x10);
                }
            }
        }
    }

    private static void inMemory() {
        for (int form = 0; form < 8; form++) {
            int word = 0xE0D9 | (form & 3) << 9 | (form >>> 2 & 1) << 8;
            for (int v = 0; v < 65536; v += 257) {
                for (int before = 0; before < 32; before += 31) {
                    board = new BoardCore();
                    board.write(0x400, word, 2);
                    board.put(9, 0xC00);
                    board.write(0xC00, v, 2);
                    board.put(17, 0x2000 | before);
                    board.step(1);
                    int result = due(v, 16, 1, form & 3, (form & 4) != 0, before);
                    CHECKS.same("memory " + Integer.toHexString(word), board.read(0xC00, 2), result);
                    CHECKS.same("memory flags " + Integer.toHexString(word), Board.flags(board), flags);
                    CHECKS.same("A1 up by a word", board.register(9), 0xC02);
                }
            }
        }
    }
}
