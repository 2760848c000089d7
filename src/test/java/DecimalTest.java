/** Promise 8: decimal sums and differences, for true decimal bytes and for all others. */
public final class DecimalTest {
    private static final Checks CHECKS = new Checks();
    private static BoardCore board;

    private DecimalTest() {
    }

    public static void main(String[] args) {
        decimals();
        inMemory();
        differencesOfAllBytes();
        sumsOfAllBytes();
        CHECKS.end();
    }

    private static int digits(int number) {
        return number / 10 << 4 | number % 10;
    }

    private static void run(int word, int d0, int d1, int before) {
        board = new BoardCore();
        board.write(0x400, word, 2);
        board.put(0, d0 | 0x11223300);
        board.put(1, d1 | 0x44556600);
        board.put(17, 0x2000 | before);
        board.step(1);
    }

    private static void look(String what, int got, int result, boolean carry, int before) {
        CHECKS.same(what, got & 255, result);
        int due = before & (Board.N | Board.V) | (carry ? Board.C | Board.X : 0);
        due |= result == 0 ? before & Board.Z : 0;
        CHECKS.same(what + " flags", Board.flags(board), due);
    }

    private static void decimals() {
        for (int a = 0; a < 100; a++) {
            for (int b = 0; b < 100; b++) {
                for (int x = 0; x < 2; x++) {
                    int before = x * 16 | (a + b) % 16;
                    run(0xC300, digits(b), digits(a), before);
                    int sum = a + b + x;
                    look("sum", board.register(1), digits(sum % 100), sum > 99, before);
                    run(0x8300, digits(b), digits(a), before);
                    int rest = a - b - x;
                    look("difference", board.register(1), digits((rest + 100) % 100), rest < 0, before);
                }
            }
            for (int before = 0; before < 32; before++) {
                run(0x4800, digits(a), 0, before);
                int rest = -a - (before >>> 4);
                look("0 less", board.register(0), digits((rest + 100) % 100), rest < 0, before);
            }
        }
        CHECKS.same("the rest of the register stays", board.register(0) & 0xFFFFFF00, 0x11223300);
    }

    private static int flagsBefore(int a, int x) {
        return x * 16 | Board.Z | (a & 1) * 10;
    }

    private static void differencesOfAllBytes() {
        CHECKS.sentence("DECIMAL: difference a - b - X: v is the low halves' difference, less X; if it is below 0, it is "
            + "6 less; v grows by the high halves' difference (times 16)");
        for (int a = 0; a < 256; a++) {
            for (int b = 0; b < 256; b++) {
                int x = (a ^ b) >>> 2 & 1;
                int low = (a & 15) - (b & 15) - x;
                int v = (low < 0 ? low - 6 : low) + 16 * ((a >>> 4) - (b >>> 4));
                run(0x8300, b, a, flagsBefore(a, x));
                look("difference", board.register(1), (v < 0 ? v - 0x60 : v) & 255, v < 0, flagsBefore(a, x));
            }
        }
    }

    private static void sumsOfAllBytes() {
        CHECKS.sentence("Sum: v is the low halves' sum, and X; if it is above 9, 6 more; v grows by the high halves");
        for (int a = 0; a < 256; a++) {
            for (int b = 0; b < 256; b++) {
                int x = (a ^ b) >>> 2 & 1;
                int low = (a & 15) + (b & 15) + x;
                int v = (low > 9 ? low + 6 : low) + 16 * ((a >>> 4) + (b >>> 4));
                run(0xC300, b, a, flagsBefore(a, x));
                look("sum", board.register(1), (v > 0x9F ? v + 0x60 : v) & 255, v > 0x9F, flagsBefore(a, x));
            }
        }
    }

    private static void inMemory() {
        BoardCore b = Board.with(0xC308, 0x8308, 0xC308, 0xCF0F, 0x4818);
        b.put(8, 0xC03);
        b.put(9, 0xD03);
        b.write(0xC00, 0x00010299, 4);
        b.write(0xD00, 0x00050301, 4);
        b.put(17, 0x2000);
        b.write(0xC02, 0x99, 1);
        b.write(0xD02, 0x01, 1);
        b.step(1);
        CHECKS.same("sum at -(Ay), -(Ar)", b.read(0xD02, 1), 0x00);
        CHECKS.same("carry", Board.flags(b), Board.C | Board.X);
        CHECKS.same("Ay", b.register(8), 0xC02);
        CHECKS.same("Ar", b.register(9), 0xD02);
        b.step(1);
        CHECKS.same("difference with that X", b.read(0xD01, 1), 0x03);
        b.put(15, 0xE08);
        b.put(16, 0x406);
        b.step(1);
        CHECKS.same("A7 goes down by 2, twice", b.register(15), 0xE04);
        b.put(17, 0x2000);
        b.put(8, 0xC02);
        b.step(1);
        CHECKS.same("0 less, in memory", b.read(0xC02, 1), 0x01);
        CHECKS.same("A0 up", b.register(8), 0xC03);
    }
}
