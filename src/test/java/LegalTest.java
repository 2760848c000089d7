/**
 * Promise 8: which of the 65536 words are instructions, which are for the supervisor only, and that
 * the others are exceptions 4, 10 and 11. The patterns are those of the document, letter for letter.
 */
public final class LegalTest {
    private static final Checks CHECKS = new Checks();

    // Classes of operands, as predicates over mode and register: see fits.
    private static final String[][] PATTERNS = {
        // pattern, class of e, further condition
        {"0000000000111100", "", ""}, {"0000001000111100", "", ""}, {"0000101000111100", "", ""},
        {"0000000001111100", "", "S"}, {"0000001001111100", "", "S"}, {"0000101001111100", "", "S"},
        {"0000rrr1kk001yyy", "", ""},
        {"0000rrr100eeeeee", "D", ""}, {"0000rrr1tteeeeee", "DA", "t"},
        {"0000100000eeeeee", "D", "noimmediate"}, {"00001000tteeeeee", "DA", "t"},
        {"00000000sseeeeee", "DA", "s"}, {"00000010sseeeeee", "DA", "s"}, {"00000100sseeeeee", "DA", "s"},
        {"00000110sseeeeee", "DA", "s"}, {"00001010sseeeeee", "DA", "s"}, {"00001100sseeeeee", "DA", "s"},
        {"0001rrrmmmeeeeee", "ANY", "byte move"}, {"0011rrrmmmeeeeee", "ANY", "move"},
        {"0010rrrmmmeeeeee", "ANY", "move"},
        {"0100000011eeeeee", "DA", ""}, {"0100010011eeeeee", "D", ""}, {"0100011011eeeeee", "D", "S"},
        {"01000000sseeeeee", "DA", "s"}, {"01000010sseeeeee", "DA", "s"}, {"01000100sseeeeee", "DA", "s"},
        {"01000110sseeeeee", "DA", "s"}, {"01001010sseeeeee", "DA", "s"},
        {"0100100000eeeeee", "DA", ""}, {"0100100001000yyy", "", ""}, {"0100100001eeeeee", "C", ""},
        {"010010001s000yyy", "", ""},
        {"010010001seeeeee", "CA", ""}, {"010010001s100yyy", "", ""},
        {"010011001seeeeee", "C", ""}, {"010011001s011yyy", "", ""},
        {"0100101011eeeeee", "DA", ""},
        {"010011100100vvvv", "", ""}, {"0100111001010yyy", "", ""}, {"0100111001011yyy", "", ""},
        {"0100111001100yyy", "", "S"}, {"0100111001101yyy", "", "S"}, {"0100111001110000", "", "S"},
        {"0100111001110001", "", ""}, {"0100111001110010", "", "S"}, {"0100111001110011", "", "S"},
        {"0100111001110101", "", ""}, {"0100111001110110", "", ""}, {"0100111001110111", "", ""},
        {"0100111010eeeeee", "C", ""}, {"0100111011eeeeee", "C", ""},
        {"0100rrr110eeeeee", "D", ""}, {"0100rrr111eeeeee", "C", ""},
        {"0101cccc11001yyy", "", ""}, {"0101cccc11eeeeee", "DA", ""}, {"0101rrrtsseeeeee", "A", "sized"},
        {"0110ccccdddddddd", "", ""}, {"0111rrr0dddddddd", "", ""},
        {"1000rrr0sseeeeee", "D", "s"}, {"1000rrr1sseeeeee", "MA", "s"},
        {"1100rrr0sseeeeee", "D", "s"}, {"1100rrr1sseeeeee", "MA", "s"},
        {"1101rrr0sseeeeee", "ANY", "sized"}, {"1101rrr1sseeeeee", "MA", "s"},
        {"1001rrr0sseeeeee", "ANY", "sized"}, {"1001rrr1sseeeeee", "MA", "s"},
        {"1011rrr0sseeeeee", "ANY", "sized"}, {"1011rrr1sseeeeee", "DA", "s"},
        {"1000rrrt11eeeeee", "D", ""}, {"1100rrrt11eeeeee", "D", ""},
        {"1001rrrt11eeeeee", "ANY", ""}, {"1101rrrt11eeeeee", "ANY", ""}, {"1011rrrt11eeeeee", "ANY", ""},
        {"1000rrr10000myyy", "", ""}, {"1100rrr10000myyy", "", ""},
        {"1001rrr1ss00myyy", "", "s"}, {"1101rrr1ss00myyy", "", "s"}, {"1011rrr1ss001yyy", "", "s"},
        {"1100rrr101000yyy", "", ""}, {"1100rrr101001yyy", "", ""}, {"1100rrr110001yyy", "", ""},
        {"1110rrrdssittyyy", "", "s"}, {"11100ttd11eeeeee", "MA", ""},
    };

    private LegalTest() {
    }

    public static void main(String[] args) {
        CHECKS.sentence("In what follows its 16 bits are told by letters, four by four: r and x a register's number, "
            + "s the SIZE (0 byte, 1 word, 2 long), m and y MODE and register of an operand, e both (six bits), "
            + "c a condition; 0 and 1 stand for themselves.");
        for (int word = 0; word < 65536; word++) {
            look(word);
        }
        CHECKS.end();
    }

    private static boolean fits(String kind, int mode, int y) {
        if (mode == 7 && y > 4) {
            return false;
        }
        boolean alterable = mode != 7 || y < 2;
        switch (kind) {
            case "ANY":
                return true;
            case "A":
                return alterable;
            case "D":
                return mode != 1;
            case "DA":
                return mode != 1 && alterable;
            case "MA":
                return mode > 1 && alterable;
            case "C":
                return mode == 2 || mode == 5 || mode == 6 || mode == 7 && y < 4;
            case "CA":
                return fits("C", mode, y) && alterable;
            default:
                throw new IllegalArgumentException(kind);
        }
    }

    private static boolean matches(String pattern, int word) {
        for (int i = 0; i < 16; i++) {
            char c = pattern.charAt(i);
            int bit = word >>> 15 - i & 1;
            if (c == '0' && bit != 0 || c == '1' && bit != 1) {
                return false;
            }
        }
        return true;
    }

    private static boolean matches(String[] line, int word) {
        int mode = word >>> 3 & 7;
        int y = word & 7;
        int size = word >>> 6 & 3;
        if (!matches(line[0], word) || !line[1].isEmpty() && !fits(line[1], mode, y)) {
            return false;
        }
        switch (line[2]) {
            case "t":
                return size != 0;
            case "noimmediate":
                return mode != 7 || y != 4;
            case "s":
                return size != 3;
            case "sized":
                return size != 3 && (size != 0 || mode != 1);
            case "move":
                return size == 1 && (word >>> 8 & 1) == 0 || fits("DA", word >>> 6 & 7, word >>> 9 & 7);
            case "byte move":
                return mode != 1 && fits("DA", word >>> 6 & 7, word >>> 9 & 7);
            default:
                return true;
        }
    }

    /** 0 for an instruction, 8 for one of the supervisor, else the exception's number. */
    private static int due(int word) {
        if (word >>> 12 == 10) {
            return 10;
        }
        if (word >>> 12 == 15) {
            return 11;
        }
        for (String[] line : PATTERNS) {
            if (matches(line, word)) {
                return line[2].equals("S") ? 8 : 0;
            }
        }
        return 4;
    }

    private static int undone(BoardCore b) {
        int[] numbers = {3, 4, 8, 10, 11};
        int found = 0;
        for (int n : numbers) {
            if (b.exceptions(n) != 0) {
                found = found * 100 + n;
            }
        }
        return found;
    }

    private static BoardCore board;

    private static void look(int word) {
        int due = due(word);
        for (int user = 0; user < 2; user++) {
            board = new BoardCore();
            board.write(0x400, word, 2);
            for (int k = 0; k < 15; k++) {
                board.put(k, 0x600 + 64 * k);
            }
            board.put(Board.USP, 0xE00);
            board.put(Board.SSP, 0xF00);
            board.put(Board.SR, user == 0 ? 0x2000 : 0);
            CHECKS.same("steps", board.step(1), 1);
            String what = "word " + Integer.toHexString(word) + (user == 0 ? " of the supervisor" : " of the user");
            CHECKS.same(what, undone(board), due == 8 && user == 0 ? 0 : due);
        }
    }
}
