/**
 * Promise 8: the letters r and y mean a register's number, whichever it is. Each form is run on two
 * registers first, then on all others with the same contents: the outcome must be the same, and no
 * other register may change.
 */
public final class RenamingTest {
    private static final Checks CHECKS = new Checks();
    private static final int UPPER = 0xC10;
    private static final int LOWER = 0xC40;

    private static final class Form {
        final int word;
        final char upper;
        final char lower;

        Form(int word, char upper, char lower) {
            this.word = word;
            this.upper = upper;
            this.lower = lower;
        }
    }

    private RenamingTest() {
    }

    public static void main(String[] args) {
        upperAndLower('D', 'A', 0x0108, 0x0148, 0x0188, 0x01C8, 0x0110, 0x0150, 0x0190, 0x01D0, 0x2010, 0x8090, 0x8190,
            0x9090, 0x9190, 0xB090, 0xB190, 0xC090, 0xC190, 0xD090, 0xD190, 0xC188, 0x8058, 0xD160, 0x1028, 0x4190);
        upperAndLower('D', 'D', 0x0100, 0x0140, 0x0180, 0x01C0, 0x2000, 0x3000, 0x1000, 0x4180, 0x8000, 0x80C0, 0x81C0,
            0x8100, 0x9000, 0x9140, 0xB000, 0xB180, 0xC000, 0xC0C0, 0xC1C0, 0xC100, 0xC140, 0xD000, 0xD180);
        upperAndLower('A', 'A', 0x2090, 0x20D8, 0x2120, 0x2048, 0x41D0, 0x41E8, 0x8108, 0xC108, 0x9188, 0xD148, 0xB148,
            0xC148, 0x90C8, 0xD1D0, 0xB1D8, 0x2158, 0x21A0);
        upperAndLower('A', 'D', 0x2040, 0x2080, 0x10C0, 0x3100, 0x2140, 0x90C0, 0xD1C0, 0xB0C0);
        for (int form = 0; form < 24; form++) {
            int word = 0xE000 | (form & 3) << 3 | (form >>> 2 & 1) << 8 | form / 8 << 6;
            upperAndLower('D', 'D', word | 0x20);
            upperAndLower('-', 'D', word, word | 0x0A00);
        }
        upperAndLower('-', 'D', 0x0800, 0x0840, 0x4000, 0x4240, 0x4480, 0x4600, 0x4A40, 0x4800, 0x4840, 0x4880, 0x48C0,
            0x4AC0, 0x40C0, 0x44C0, 0x50C8, 0x51C8, 0x54C0, 0x5280, 0x5340, 0x0600, 0x0C40);
        upperAndLower('-', 'A', 0x0850, 0x4018, 0x4260, 0x4A28, 0x4850, 0x4890, 0x4C98, 0x4CD0, 0x4E50, 0x4E58,
            0x4E60, 0x4E68, 0x4E90, 0x4ED0, 0x4EE8, 0x5288, 0x5348, 0x5290, 0x54D8, 0x06A0, 0xE0D0, 0xE5D8);
        upperAndLower('D', '-', 0x7000, 0x7055, 0x2038, 0xC0F8, 0x303C);
        upperAndLower('A', '-', 0x41F8, 0x207C, 0x20BC, 0xD0F8);
        CHECKS.end();
    }

    private static void upperAndLower(char upper, char lower, int... words) {
        for (int word : words) {
            Form form = new Form(word, upper, lower);
            int[] due = outcome(form, 1, 2);
            for (int r = 0; r < 8; r++) {
                for (int y = 0; y < 8; y++) {
                    if (allowed(form, r, y)) {
                        compare(form, r, y, due);
                    }
                }
            }
        }
    }

    // A7 has ways of its own, and so has a register that meets itself.
    private static boolean allowed(Form form, int r, int y) {
        if (form.upper == 'A' && r == 7 || form.lower == 'A' && y == 7 || form.upper == form.lower && r == y) {
            return false;
        }
        return (form.upper != '-' || r == 0) && (form.lower != '-' || y == 0);
    }

    private static void compare(Form form, int r, int y, int[] due) {
        int[] got = outcome(form, r, y);
        String what = Integer.toHexString(form.word) + " with " + form.upper + r + ", " + form.lower + y;
        CHECKS.same(what + ", other registers that changed", got[7], 0);
        for (int i = 0; i < due.length; i++) {
            CHECKS.same(what + ", part " + i, got[i], due[i]);
        }
    }

    private static int number(char kind, int k) {
        return kind == 'D' ? k : kind == 'A' ? 8 + k : -1;
    }

    private static int content(char kind, boolean upper) {
        if (kind == 'A') {
            return upper ? UPPER : LOWER;
        }
        return upper ? 0x00345625 : 0x80017903;
    }

    private static int[] outcome(Form form, int r, int y) {
        BoardCore b = new BoardCore();
        int word = form.word | (form.upper == '-' ? 0 : r << 9) | (form.lower == '-' ? 0 : y);
        b.write(0x400, word, 2);
        b.write(0x402, 0x0008_0004, 4);
        for (int a = UPPER - 16; a < LOWER + 48; a += 4) {
            b.write(a, 0x01234567 * (a / 4), 4);
        }
        int upper = number(form.upper, r);
        int lower = number(form.lower, y);
        for (int k = 0; k < 15; k++) {
            b.put(k, k == upper ? content(form.upper, true) : k == lower ? content(form.lower, false) : 0x600 + 2 * k);
        }
        b.put(17, 0x2010);
        b.put(18, 0x700);
        b.step(1);
        int strangers = 0;
        for (int k = 0; k < 15; k++) {
            boolean loaded = (form.word & 0xFB80) == 0x4880 && k == 3 && (form.word & 0x400) != 0;
            if (k != upper && k != lower && !loaded && b.register(k) != 0x600 + 2 * k) {
                strangers++;
            }
        }
        int[] seen = new int[9 + (LOWER + 64 - UPPER) / 4];
        seen[0] = upper < 0 ? 0 : b.register(upper);
        seen[1] = lower < 0 ? 0 : b.register(lower);
        seen[2] = b.register(15);
        seen[3] = b.register(16);
        seen[4] = b.register(17);
        seen[5] = b.register(18);
        seen[6] = b.exceptions(0);
        seen[7] = strangers;
        seen[8] = b.read(0x3FC, 4);
        for (int i = 9; i < seen.length; i++) {
            seen[i] = b.read(UPPER - 16 + 4 * (i - 9), 4);
        }
        return seen;
    }
}
