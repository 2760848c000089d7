/**
 * Single instructions told as text, everything to the base 16.
 *
 * What is there before and after is told by parts like D0=12345678, A6=C00, PC=400, SR=2004, US=E00 and
 * SS=F00 (the user's A7 and the supervisor's), B.C01=7F, W.C00=1234, L.C00=12345678 (memory). All that is
 * not told after the instruction must be as it was before it: every register, and all of memory.
 */
final class Edge {
    private static final int CODE = 0x400;
    private static final int HALTED = 2;

    private final Checks checks;
    private final int[] due = new int[20];
    private BoardCore board;
    private String what;
    private int dueSum;
    private String dueMemory;

    Edge(Checks checks) {
        this.checks = checks;
    }

    /** Nothing but what is told comes of it, and PC is behind its words if nothing else is told. */
    void does(String code, String before, String after) {
        start(code, before);
        due[Board.PC] += 2 * words(code).length;
        expect(after);
        stepOnce();
        look();
    }

    /** As does, but with exception 9 in the same step. */
    void traces(String code, String before, String after) {
        start(code, before);
        due[Board.PC] += 2 * words(code).length;
        expect(after);
        frame(9, due[Board.PC]);
        stepOnce();
        look(9);
    }

    /** As raises, but with exception 9 behind exception n in the same step. */
    void raisesAndTraces(int n, int pc, String code, String before, String after) {
        start(code, before);
        expect(after);
        frame(n, pc);
        frame(9, Board.vector(n));
        stepOnce();
        look(n, 9);
    }

    /** The interrupt of a level in place of the instruction. */
    void interrupts(int level, String code, String before) {
        start(code, before);
        board.want(level);
        frame(24 + level, due[Board.PC]);
        due[Board.SR] = due[Board.SR] & ~0x0700 | level << 8;
        stepOnce();
        look(24 + level);
    }

    private void stepOnce() {
        checks.same(what + " step", board.step(1), 1);
    }

    /** Exception n with this PC pushed; the SR that is told after it is the one that is pushed. */
    void raises(int n, int pc, String code, String before, String after) {
        start(code, before);
        expect(after);
        frame(n, pc);
        stepOnce();
        look(n);
    }

    /** One of the exceptions that leave nothing of the instruction. */
    void refuses(int n, String code, String before) {
        start(code, before);
        frame(n, due[Board.PC]);
        stepOnce();
        look(n);
    }

    /** The address error with this address. */
    void faults(int address, String code, String before) {
        start(code, before);
        boolean taken = (due[Board.PC] & 1) == 0;
        int top = due[Board.SSP];
        frame(3, due[Board.PC]);
        push(top - 8, taken ? words(code)[0] : 0, 'W');
        push(top - 12, address, 'L');
        push(top - 14, 0, 'W');
        due[Board.SSP] = top - 14;
        stepOnce();
        look(3);
    }

    /** The machine is halted with this PC; S and T are as an exception makes them. */
    void halts(int pc, String code, String before, String after) {
        start(code, before);
        expect(after);
        halt(pc);
    }

    /** The machine is halted by the interrupt of a level in place of the instruction. */
    void haltsByInterrupt(int level, String code, String before) {
        start(code, before);
        board.want(level);
        halt(due[Board.PC]);
    }

    private void halt(int pc) {
        due[Board.PC] = pc;
        due[Board.SR] = due[Board.SR] & ~Board.T | Board.S;
        checks.same(what + " steps", board.step(9), 1);
        look();
        checks.same(what + " is halted", board.state(), HALTED);
        checks.same(what + " makes no more steps", board.step(9), 0);
    }

    /** The board of the last call, to look further. */
    BoardCore board() {
        return board;
    }

    static int[] words(String code) {
        String[] parts = code.split(" ");
        int[] words = new int[parts.length];
        for (int i = 0; i < parts.length; i++) {
            words[i] = Integer.parseInt(parts[i], 16);
        }
        return words;
    }

    private void start(String code, String before) {
        what = "[" + code + "] with " + before;
        board = Board.with();
        for (int k = 0; k < 8; k++) {
            due[k] = 0x0D00D000 + 0x11 * k;
            due[8 + k] = 0xC00 + 0x40 * k;
        }
        due[Board.PC] = CODE;
        due[Board.SR] = Board.S;
        due[Board.USP] = 0xE00;
        due[Board.SSP] = 0xF00;
        for (String part : parts(before)) {
            if (part.charAt(1) == '.') {
                board.write(address(part), value(part), size(part));
            } else {
                due[number(part)] = value(part);
            }
        }
        Board.code(board, due[Board.PC], words(code));
        for (int k = 0; k < 20; k++) {
            if (k != 15) {
                board.put(k, due[k]);
            }
        }
        dueSum = board.sum();
        dueMemory = "";
    }

    private void expect(String after) {
        for (String part : parts(after)) {
            if (part.charAt(1) == '.') {
                expectMemory(part);
            } else {
                due[number(part)] = value(part);
            }
        }
    }

    private void expectMemory(String part) {
        int v = value(part);
        int n = size(part);
        for (int i = 0; i < n; i++) {
            int address = address(part) + i & 0xFFF;
            dueSum += ((v >>> 8 * (n - 1 - i) & 0xFF) - board.read(address, 1)) * (address + 1);
        }
        dueMemory = dueMemory + " " + part;
    }

    private void push(int address, int v, char size) {
        expectMemory(size + "." + Integer.toHexString(address) + "=" + Integer.toHexString(v));
    }

    private void frame(int n, int pc) {
        int top = due[Board.SSP];
        push(top - 4, pc, 'L');
        push(top - 6, due[Board.SR], 'W');
        due[Board.SSP] = top - 6;
        due[Board.SR] = due[Board.SR] & ~Board.T | Board.S;
        due[Board.PC] = Board.vector(n);
    }

    /** Everything is as due, and these exceptions were done, once each. */
    private void look(int... exceptions) {
        for (int k = 0; k < 20; k++) {
            if (k != 15) {
                checks.same(what + " register " + k, board.register(k), due[k]);
            }
        }
        boolean supervisor = (due[Board.SR] & Board.S) != 0;
        checks.same(what + " A7", board.register(15), due[supervisor ? Board.SSP : Board.USP]);
        for (String part : parts(dueMemory)) {
            int mask = (int) ((1L << 8 * size(part)) - 1);
            checks.same(what + " " + part, board.read(address(part), size(part)), value(part) & mask);
        }
        checks.same(what + " the rest of memory", board.sum(), dueSum);
        checks.same(what + " exceptions", board.exceptions(0), exceptions.length);
        for (int n : exceptions) {
            checks.same(what + " exception " + n, board.exceptions(n), 1);
        }
    }

    private static String[] parts(String text) {
        return text.isBlank() ? new String[0] : text.trim().split(" +");
    }

    private static int value(String part) {
        return Integer.parseUnsignedInt(part.substring(part.indexOf('=') + 1), 16);
    }

    private static int address(String part) {
        return Integer.parseUnsignedInt(part.substring(2, part.indexOf('=')), 16);
    }

    private static int size(String part) {
        char c = part.charAt(0);
        return c == 'B' ? 1 : c == 'W' ? 2 : 4;
    }

    private static int number(String part) {
        String name = part.substring(0, part.indexOf('='));
        switch (name) {
            case "PC":
                return Board.PC;
            case "SR":
                return Board.SR;
            case "US":
                return Board.USP;
            case "SS":
                return Board.SSP;
            default:
                int y = name.charAt(1) - '0';
                if (name.length() != 2 || y < 0 || y > 7 || name.equals("A7") || "DA".indexOf(name.charAt(0)) < 0) {
                    throw new IllegalArgumentException(part);
                }
                return name.charAt(0) == 'D' ? y : 8 + y;
        }
    }
}
