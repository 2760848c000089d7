import java.util.Arrays;

/**
 * The processor of a board with sixteen registers and a memory of 4096 bytes.
 *
 * This class keeps the flow of the machine (steps, exceptions, interrupts); what a single
 * instruction does is in Instructions, how it reaches its operands in Access.
 */
public final class BoardCore {
    private static final int GOES_ON = 0;
    private static final int WAITS = 1;
    private static final int HALTED = 2;

    private static final int MOST_STEPS = 3000;
    private static final int HIGHEST_LEVEL = 7;
    private static final int EXCEPTION_NUMBERS = 64;

    private static final int ADDRESS_ERROR = 3;
    private static final int ILLEGAL = 4;
    private static final int DIVIDED_BY_ZERO = 5;
    private static final int OUT_OF_BOUNDS = 6;
    private static final int OVERFLOWN = 7;
    private static final int NOT_PERMITTED = 8;
    private static final int TRACE = 9;
    private static final int LINE_TEN = 10;
    private static final int LINE_FIFTEEN = 11;
    private static final int INTERRUPTS = 24;
    private static final int TRAPS = 32;

    private static final int C = 0x01;
    private static final int V = 0x02;
    private static final int Z = 0x04;
    private static final int N = 0x08;
    private static final int X = 0x10;
    private static final int FLAGS = 0x1F;
    private static final int MASK = 0x0700;
    private static final int MASK_PLACE = 8;
    private static final int S = 0x2000;
    private static final int T = 0x8000;
    private static final int STATUS_BITS = 0xA71F;

    private static final int START = 0x400;
    private static final int A = 8;
    private static final int A7 = 15;
    private static final int OTHER_A7 = 16;

    // A class of operands has a bit for each mode 0 to 6, then one for each register of mode 7.
    private static final int ANY = 0xFFF;
    private static final int DATA = 0xFFD;
    private static final int MEMORY = 0xFFC;
    private static final int CONTROL = 0x7E4;
    private static final int ALTERABLE = 0x1FF;
    private static final int DATA_ALTERABLE = DATA & ALTERABLE;
    private static final int MEMORY_ALTERABLE = MEMORY & ALTERABLE;
    private static final int GOING_UP = 0x008;
    private static final int GOING_DOWN = 0x010;
    private static final int IMMEDIATE = 0x800;

    // Modes as they stand in the six bits of an operand.
    private static final int UP_MODE = 0x18;
    private static final int DOWN_MODE = 0x20;
    private static final int IMMEDIATE_OPERAND = 0x3C;

    // What becomes of two operands, with the numbers that line 0 gives to it.
    private static final int OR = 0;
    private static final int AND = 1;
    private static final int LESS = 2;
    private static final int MORE = 3;
    private static final int BIT_LINE = 4;
    private static final int EXCLUSIVE_OR = 5;
    private static final int COMPARED = 6;

    private final Memory memory;
    private final Registers registers;
    private final Access access;
    private final Instructions instructions;
    private final int[] counts;
    private int wanted;
    private int phase;

    public BoardCore() {
        memory = new Memory();
        registers = new Registers();
        access = new Access(memory, registers);
        instructions = new Instructions(registers, access);
        counts = new int[EXCEPTION_NUMBERS];
        wanted = 0;
        phase = GOES_ON;
    }

    public void reset() {
        registers.clear();
        Arrays.fill(counts, 0);
        wanted = 0;
        phase = GOES_ON;
    }

    public int register(int k) throws IndexOutOfBoundsException {
        if (k < 0 || k > 19) {
            throw new IndexOutOfBoundsException();
        }
        switch (k) {
            case 16:
                return registers.pc;
            case 17:
                return registers.sr;
            case 18:
                return registers.stackOf(0);
            case 19:
                return registers.stackOf(S);
            default:
                return registers.get(k);
        }
    }

    public void put(int k, int v) throws IndexOutOfBoundsException {
        if (k < 0 || k > 19) {
            throw new IndexOutOfBoundsException();
        }
        switch (k) {
            case 16:
                registers.pc = v;
                break;
            case 17:
                registers.setStatus(v);
                break;
            case 18:
                registers.setStackOf(0, v);
                break;
            case 19:
                registers.setStackOf(S, v);
                break;
            default:
                registers.set(k, v);
        }
    }

    public void write(int address, int v, int n) throws IllegalArgumentException {
        if (n != 1 && n != 2 && n != 4) {
            throw new IllegalArgumentException();
        }
        memory.store(address, v, n);
    }

    public int read(int address, int n) throws IllegalArgumentException {
        if (n != 1 && n != 2 && n != 4) {
            throw new IllegalArgumentException();
        }
        return memory.load(address, n);
    }

    public void want(int level) throws IllegalArgumentException {
        if (level < 0 || level > HIGHEST_LEVEL) {
            throw new IllegalArgumentException();
        }
        wanted = level;
    }

    public int step(int n) throws IllegalArgumentException {
        if (n < 0 || n > MOST_STEPS) {
            throw new IllegalArgumentException();
        }
        int done = 0;
        while (done < n && advance()) {
            done++;
        }
        return done;
    }

    public int state() {
        return phase;
    }

    public int exceptions(int n) throws IllegalArgumentException {
        if (n < 0 || n >= EXCEPTION_NUMBERS) {
            throw new IllegalArgumentException();
        }
        return counts[n];
    }

    public int sum() {
        return memory.weighted();
    }

    /** Answers whether there was anything to do. */
    private boolean advance() {
        if (phase == HALTED) {
            return false;
        }
        if (wanted == HIGHEST_LEVEL || wanted > (registers.sr & MASK) >>> MASK_PLACE) {
            interrupt();
            return true;
        }
        if (phase == WAITS) {
            return false;
        }
        boolean traced = registers.has(T);
        registers.keep();
        int word = access.firstWord();
        if (access.raised == 0) {
            instructions.obey(word);
        }
        finish(word, traced);
        return true;
    }

    private void interrupt() {
        int level = wanted;
        wanted = 0;
        phase = GOES_ON;
        if (enter(INTERRUPTS + level)) {
            leaveFor(INTERRUPTS + level);
            registers.setStatus(registers.sr & ~MASK | level << MASK_PLACE);
        }
    }

    private void finish(int word, boolean traced) {
        int n = access.raised;
        int oddAddress = access.oddAddress;
        access.forget();
        if (undoes(n)) {
            registers.bringBack();
            if (enter(n)) {
                pushFault(n, word, oddAddress);
                leaveFor(n);
            }
            return;
        }
        if (n != 0 && enter(n)) {
            leaveFor(n);
        }
        if (traced) {
            if (enter(TRACE)) {
                leaveFor(TRACE);
            }
        } else if (instructions.stops()) {
            phase = WAITS;
        }
    }

    private static boolean undoes(int n) {
        return n == ADDRESS_ERROR || n == ILLEGAL || n == NOT_PERMITTED || n == LINE_TEN || n == LINE_FIFTEEN;
    }

    /** Pushes what every exception pushes; answers false if that halts the machine. */
    private boolean enter(int n) {
        int before = registers.sr;
        registers.setStatus(before & ~T | S);
        if ((registers.get(A7) & 1) != 0) {
            phase = HALTED;
            return false;
        }
        access.push(Size.LONG, registers.pc);
        access.push(Size.WORD, before);
        counts[n & (EXCEPTION_NUMBERS - 1)]++;
        counts[0]++;
        return true;
    }

    private void pushFault(int n, int word, int oddAddress) {
        if (n == ADDRESS_ERROR) {
            access.push(Size.WORD, word);
            access.push(Size.LONG, oddAddress);
            access.push(Size.WORD, 0);
        }
    }

    // Apart from enter, because all that is pushed may lie over the place of the new PC.
    private void leaveFor(int n) {
        registers.pc = memory.load(4 * n, 4);
    }

    /** How wide an operand is. */
    private enum Size {
        BYTE(1, 0xFF, 0x80),
        WORD(2, 0xFFFF, 0x8000),
        LONG(4, 0xFFFFFFFF, 0x80000000);

        final int bytes;
        final int mask;
        final int top;

        Size(int bytes, int mask, int top) {
            this.bytes = bytes;
            this.mask = mask;
            this.top = top;
        }

        static Size of(int bits) {
            if (bits == 0) {
                return BYTE;
            }
            return bits == 1 ? WORD : LONG;
        }

        int extend(int v) {
            if (this == BYTE) {
                return (byte) v;
            }
            return this == WORD ? (short) v : v;
        }

        long unsigned(int v) {
            return (v & mask) & 0xFFFFFFFFL;
        }
    }

    /** Bytes, with addresses that go round. */
    private static final class Memory {
        private static final int CELLS = 4096;

        private final byte[] cells;

        Memory() {
            cells = new byte[CELLS];
        }

        int load(int address, int bytes) {
            int v = 0;
            for (int i = 0; i < bytes; i++) {
                v = v << 8 | cells[address + i & CELLS - 1] & 0xFF;
            }
            return v;
        }

        void store(int address, int v, int bytes) {
            int rest = v;
            for (int i = bytes - 1; i >= 0; i--) {
                cells[address + i & CELLS - 1] = (byte) rest;
                rest >>>= 8;
            }
        }

        int weighted() {
            int total = 0;
            for (int i = 0; i < CELLS; i++) {
                total += (cells[i] & 0xFF) * (i + 1);
            }
            return total;
        }
    }

    /**
     * D0 to D7, A0 to A7, the A7 of the other mode, PC and SR; a second row keeps them as they were
     * before an instruction, for those whose work does not count in the end.
     */
    private static final class Registers {
        private final int[] now;
        private final int[] kept;
        int pc;
        int sr;
        private int keptPc;
        private int keptSr;

        Registers() {
            now = new int[OTHER_A7 + 1];
            kept = new int[OTHER_A7 + 1];
            now[A7] = START;
            pc = START;
            sr = S;
        }

        void clear() {
            Arrays.fill(now, 0);
            now[A7] = START;
            pc = START;
            sr = S;
        }

        void keep() {
            System.arraycopy(now, 0, kept, 0, OTHER_A7 + 1);
            keptPc = pc;
            keptSr = sr;
        }

        void bringBack() {
            System.arraycopy(kept, 0, now, 0, OTHER_A7 + 1);
            pc = keptPc;
            sr = keptSr;
        }

        int get(int k) {
            return now[k & 15];
        }

        void set(int k, int v) {
            now[k & 15] = v;
        }

        int stackOf(int mode) {
            return now[(sr & S) == mode ? A7 : OTHER_A7];
        }

        void setStackOf(int mode, int v) {
            now[(sr & S) == mode ? A7 : OTHER_A7] = v;
        }

        // A7 is always that of S, so the two stack pointers change places with it.
        void setStatus(int v) {
            if (((v ^ sr) & S) != 0) {
                int other = now[OTHER_A7];
                now[OTHER_A7] = now[A7];
                now[A7] = other;
            }
            sr = v & STATUS_BITS;
        }

        void setFlags(int v) {
            sr = sr & ~FLAGS | v & FLAGS;
        }

        boolean has(int bit) {
            return (sr & bit) != 0;
        }

        void mark(int bit, boolean on) {
            sr = on ? sr | bit : sr & ~bit;
        }

        boolean holds(int condition) {
            boolean straight = (condition & 1) == 0;
            switch (condition >>> 1 & 7) {
                case 0:
                    return straight;
                case 1:
                    return straight == ((sr & (C | Z)) == 0);
                case 2:
                    return straight == !has(C);
                case 3:
                    return straight == !has(Z);
                case 4:
                    return straight == !has(V);
                case 5:
                    return straight == !has(N);
                case 6:
                    return straight == (has(N) == has(V));
                default:
                    return straight == (!has(Z) && has(N) == has(V));
            }
        }
    }

    /**
     * How an instruction takes its words and reaches its operands.
     *
     * A place is an operand that has been found: an address without sign in memory, or below 0 a
     * register. What goes wrong is kept until the instruction has ended; from then on nothing is
     * read and written any more, so that memory needs no second row.
     */
    private static final class Access {
        private final Memory memory;
        private final Registers registers;
        int raised;
        int oddAddress;

        Access(Memory memory, Registers registers) {
            this.memory = memory;
            this.registers = registers;
            raised = 0;
            oddAddress = 0;
        }

        void forget() {
            raised = 0;
            oddAddress = 0;
        }

        // The first thing that goes wrong is the one that counts.
        void raise(int n) {
            if (raised == 0) {
                raised = n;
            }
        }

        private boolean refuses(Size size, int address) {
            if (raised == 0 && size != Size.BYTE && (address & 1) != 0) {
                raised = ADDRESS_ERROR;
                oddAddress = address;
            }
            return raised != 0;
        }

        int firstWord() {
            return refuses(Size.WORD, registers.pc) ? 0 : nextWord();
        }

        int nextWord() {
            int v = memory.load(registers.pc, 2);
            registers.pc += 2;
            return v;
        }

        private int nextLong() {
            int v = memory.load(registers.pc, 4);
            registers.pc += 4;
            return v;
        }

        int immediate(Size size) {
            return size == Size.LONG ? nextLong() : nextWord() & size.mask;
        }

        static long inRegister(int k) {
            return -1L - k;
        }

        private static long at(int address) {
            return address & 0xFFFFFFFFL;
        }

        /** Where the operand of six bits is; its Ay goes up or down here, its words are taken. */
        long locate(Size size, int operand) {
            int y = operand & 7;
            int base = registers.get(A + y);
            int here = registers.pc;
            switch (kind(operand)) {
                case 0:
                    return inRegister(y);
                case 1:
                    return inRegister(A + y);
                case 2:
                    return at(base);
                case 3:
                    registers.set(A + y, base + stride(size, y));
                    return at(base);
                case 4:
                    registers.set(A + y, base - stride(size, y));
                    return at(base - stride(size, y));
                case 5:
                    return at(base + (short) nextWord());
                case 6:
                    return at(indexed(base, nextWord()));
                case 7:
                    return at((short) nextWord());
                case 8:
                    return at(nextLong());
                case 9:
                    return at(here + (short) nextWord());
                case 10:
                    return at(indexed(here, nextWord()));
                default:
                    registers.pc += size == Size.LONG ? 4 : 2;
                    return at(size == Size.BYTE ? here + 1 : here);
            }
        }

        /** The number of the bit that stands for an operand in a class of operands. */
        static int kind(int operand) {
            int mode = operand >>> 3 & 7;
            return mode < 7 ? mode : 7 + (operand & 7);
        }

        // A7 stays even: bytes on the stack take a word.
        private static int stride(Size size, int y) {
            return size == Size.BYTE && y == 7 ? 2 : size.bytes;
        }

        private int indexed(int base, int word) {
            int index = registers.get(word >>> 12);
            return base + (byte) word + ((word & 0x800) != 0 ? index : (short) index);
        }

        int load(Size size, long place) {
            if (place < 0) {
                return registers.get((int) (-1L - place)) & size.mask;
            }
            return loadAt(size, (int) place);
        }

        int loadAt(Size size, int address) {
            return refuses(size, address) ? 0 : memory.load(address, size.bytes);
        }

        void store(Size size, long place, int v) {
            if (place < 0) {
                int k = (int) (-1L - place);
                registers.set(k, registers.get(k) & ~size.mask | v & size.mask);
            } else {
                storeAt(size, (int) place, v);
            }
        }

        void storeAt(Size size, int address, int v) {
            if (!refuses(size, address)) {
                memory.store(address, v, size.bytes);
            }
        }

        void push(Size size, int v) {
            int top = registers.get(A7) - size.bytes;
            registers.set(A7, top);
            if (!refuses(size, top)) {
                memory.store(top, v, size.bytes);
            }
        }

        int pop(Size size) {
            int top = registers.get(A7);
            registers.set(A7, top + size.bytes);
            return refuses(size, top) ? 0 : memory.load(top, size.bytes);
        }
    }

    /** Results and the flags that go with them. */
    private static final class Arithmetic {
        private final Registers registers;

        Arithmetic(Registers registers) {
            this.registers = registers;
        }

        private void note(Size size, int result, boolean overflow, boolean carry) {
            int flags = (result & size.top) != 0 ? N : 0;
            flags |= (result & size.mask) == 0 ? Z : 0;
            flags |= overflow ? V : 0;
            flags |= carry ? C : 0;
            registers.sr = registers.sr & ~(N | Z | V | C) | flags;
        }

        int logic(Size size, int v) {
            note(size, v, false, false);
            return v & size.mask;
        }

        private int added(Size size, int a, int b, int more) {
            long wide = size.unsigned(a) + size.unsigned(b) + more;
            int result = (int) wide & size.mask;
            note(size, result, ((a ^ result) & (b ^ result) & size.top) != 0, wide > size.unsigned(-1));
            return result;
        }

        private int subtracted(Size size, int a, int b, int more) {
            long wide = size.unsigned(a) - size.unsigned(b) - more;
            int result = (int) wide & size.mask;
            note(size, result, ((a ^ b) & (a ^ result) & size.top) != 0, wide < 0);
            return result;
        }

        private int withCarryToX(int result) {
            registers.mark(X, registers.has(C));
            return result;
        }

        private int xAsNumber() {
            return registers.has(X) ? 1 : 0;
        }

        void compare(Size size, int a, int b) {
            subtracted(size, a, b, 0);
        }

        int joined(int how, Size size, int a, int b) {
            switch (how) {
                case OR:
                    return logic(size, a | b);
                case AND:
                    return logic(size, a & b);
                case LESS:
                    return withCarryToX(subtracted(size, a, b, 0));
                case MORE:
                    return withCarryToX(added(size, a, b, 0));
                default:
                    return logic(size, a ^ b);
            }
        }

        int joinedWithX(int how, Size size, int a, int b) {
            boolean zero = registers.has(Z);
            int result = how == LESS ? subtracted(size, a, b, xAsNumber()) : added(size, a, b, xAsNumber());
            registers.mark(Z, zero && result == 0);
            return withCarryToX(result);
        }

        int decimalPlus(int a, int b) {
            int v = (a & 15) + (b & 15) + xAsNumber();
            if (v > 9) {
                v += 6;
            }
            v += (a & 0xF0) + (b & 0xF0);
            boolean carry = v > 0x9F;
            return decimal(carry ? v + 0x60 : v, carry);
        }

        int decimalMinus(int a, int b) {
            int v = (a & 15) - (b & 15) - xAsNumber();
            if (v < 0) {
                v -= 6;
            }
            v += (a & 0xF0) - (b & 0xF0);
            boolean borrow = v < 0;
            return decimal(borrow ? v - 0x60 : v, borrow);
        }

        private int decimal(int v, boolean carry) {
            int result = v & 0xFF;
            registers.mark(C, carry);
            registers.mark(X, carry);
            if (result != 0) {
                registers.mark(Z, false);
            }
            return result;
        }

        /** Shifts bit by bit; type is 0 with the sign, 1 with 0, 2 through X, 3 round. */
        int shifted(Size size, int v, int times, int type, boolean left) {
            int result = v & size.mask;
            boolean extra = registers.has(X);
            boolean last = type == 2 && extra;
            boolean changed = false;
            for (int i = 0; i < times; i++) {
                last = (result & (left ? size.top : 1)) != 0;
                boolean coming = comingIn(type, last, extra, !left && (result & size.top) != 0);
                int before = result;
                result = left ? result << 1 & size.mask | (coming ? 1 : 0) : result >>> 1 | (coming ? size.top : 0);
                changed |= ((before ^ result) & size.top) != 0;
                extra = type == 3 ? extra : last;
            }
            note(size, result, type == 0 && left && changed, last);
            registers.mark(X, extra);
            return result;
        }

        private static boolean comingIn(int type, boolean last, boolean extra, boolean sign) {
            switch (type) {
                case 0:
                    return sign;
                case 1:
                    return false;
                case 2:
                    return extra;
                default:
                    return last;
            }
        }
    }

    /** What each instruction does, found by its highest four bits first. */
    private static final class Instructions {
        private final Registers registers;
        private final Access access;
        private final Arithmetic arithmetic;
        private boolean stopping;

        Instructions(Registers registers, Access access) {
            this.registers = registers;
            this.access = access;
            arithmetic = new Arithmetic(registers);
            stopping = false;
        }

        /** Whether the last instruction asks to wait. */
        boolean stops() {
            return stopping;
        }

        void obey(int word) {
            stopping = false;
            switch (word >>> 12) {
                case 0:
                    lineZero(word);
                    break;
                case 1:
                    move(word, Size.BYTE);
                    break;
                case 2:
                    move(word, Size.LONG);
                    break;
                case 3:
                    move(word, Size.WORD);
                    break;
                case 4:
                    lineFour(word);
                    break;
                case 5:
                    lineFive(word);
                    break;
                case 6:
                    branch(word);
                    break;
                case 7:
                    moveQuick(word);
                    break;
                case 8:
                    lineEight(word);
                    break;
                case 9:
                    sums(word, LESS);
                    break;
                case 10:
                    access.raise(LINE_TEN);
                    break;
                case 11:
                    lineEleven(word);
                    break;
                case 12:
                    lineTwelve(word);
                    break;
                case 13:
                    sums(word, MORE);
                    break;
                case 14:
                    shift(word);
                    break;
                default:
                    access.raise(LINE_FIFTEEN);
            }
        }

        private static int upper(int word) {
            return word >>> 9 & 7;
        }

        private static int lower(int word) {
            return word & 7;
        }

        private static int operand(int word) {
            return word & 63;
        }

        private static int sizeBits(int word) {
            return word >>> 6 & 3;
        }

        // Bit 8: in most lines it tells that the operand is not the source, but written to.
        private static boolean isTo(int word) {
            return (word & 0x100) != 0;
        }

        private void illegal() {
            access.raise(ILLEGAL);
        }

        private boolean misfits(int kinds, int operand) {
            if ((kinds >>> Access.kind(operand) & 1) != 0) {
                return false;
            }
            access.raise(ILLEGAL);
            return true;
        }

        // There is no byte of an address register.
        private static int ofSize(int kinds, Size size) {
            return size == Size.BYTE ? kinds & DATA : kinds;
        }

        private boolean permitted() {
            if (registers.has(S)) {
                return true;
            }
            access.raise(NOT_PERMITTED);
            return false;
        }

        private void lineZero(int word) {
            boolean status = operand(word) == IMMEDIATE_OPERAND && sizeBits(word) < 2;
            int how = upper(word);
            if ((word & 0x138) == 0x108) {
                movePeripheral(word);
            } else if (isTo(word)) {
                bit(word, sizeBits(word) == 0 ? DATA : DATA_ALTERABLE, false);
            } else if (how == BIT_LINE) {
                bit(word, sizeBits(word) == 0 ? DATA & ~IMMEDIATE : DATA_ALTERABLE, true);
            } else if (status && (how == OR || how == AND || how == EXCLUSIVE_OR)) {
                joinStatus(how, sizeBits(word) == 1);
            } else {
                joinImmediate(word);
            }
        }

        private void movePeripheral(int word) {
            int address = registers.get(A + lower(word)) + (short) access.nextWord();
            int r = upper(word);
            Size size = (word & 0x40) == 0 ? Size.WORD : Size.LONG;
            int v = registers.get(r);
            for (int i = 0; i < size.bytes; i++) {
                int place = 8 * (size.bytes - 1 - i);
                if ((word & 0x80) != 0) {
                    access.storeAt(Size.BYTE, address + 2 * i, v >>> place);
                } else {
                    v = v & ~(0xFF << place) | access.loadAt(Size.BYTE, address + 2 * i) << place;
                }
            }
            registers.set(r, v);
        }

        private void bit(int word, int kinds, boolean numberFollows) {
            if (misfits(kinds, operand(word))) {
                return;
            }
            int number = numberFollows ? access.nextWord() : registers.get(upper(word));
            Size size = operand(word) < 8 ? Size.LONG : Size.BYTE;
            long place = access.locate(size, operand(word));
            int v = access.load(size, place);
            int one = 1 << (number & 8 * size.bytes - 1);
            registers.mark(Z, (v & one) == 0);
            switch (sizeBits(word)) {
                case 0:
                    break;
                case 1:
                    access.store(size, place, v ^ one);
                    break;
                case 2:
                    access.store(size, place, v & ~one);
                    break;
                default:
                    access.store(size, place, v | one);
            }
        }

        private void joinStatus(int how, boolean whole) {
            if (whole && !permitted()) {
                return;
            }
            int v = access.nextWord();
            int sr = registers.sr;
            int result = how == OR ? sr | v : how == AND ? sr & v : sr ^ v;
            if (whole) {
                registers.setStatus(result);
            } else {
                registers.setFlags(result);
            }
        }

        private void joinImmediate(int word) {
            int how = upper(word);
            if (how == 7 || sizeBits(word) == 3) {
                illegal();
                return;
            }
            if (misfits(DATA_ALTERABLE, operand(word))) {
                return;
            }
            Size size = Size.of(sizeBits(word));
            int source = access.immediate(size);
            long place = access.locate(size, operand(word));
            int v = access.load(size, place);
            if (how == COMPARED) {
                arithmetic.compare(size, v, source);
            } else {
                access.store(size, place, arithmetic.joined(how, size, v, source));
            }
        }

        private void move(int word, Size size) {
            int r = upper(word);
            int destination = (word >>> 6 & 7) << 3 | r;
            boolean toAddress = destination >>> 3 == 1;
            int kinds = toAddress ? ofSize(ANY, size) : DATA_ALTERABLE;
            if (misfits(ofSize(ANY, size), operand(word)) || misfits(kinds, destination)) {
                return;
            }
            int v = access.load(size, access.locate(size, operand(word)));
            if (toAddress) {
                registers.set(A + r, size.extend(v));
            } else {
                long place = access.locate(size, destination);
                access.store(size, place, arithmetic.logic(size, v));
            }
        }

        private void lineFour(int word) {
            switch (isTo(word) ? word & 0x1C0 : word & 0xFC0) {
                case 0x180:
                    check(word);
                    break;
                case 0x1C0:
                    loadAddress(word);
                    break;
                case 0x0C0:
                    moveFromStatus(word);
                    break;
                case 0x4C0:
                case 0x6C0:
                    moveToStatus(word);
                    break;
                case 0x800:
                    negateDecimal(word);
                    break;
                case 0x840:
                    swapOrPushAddress(word);
                    break;
                case 0x880:
                case 0x8C0:
                    extendOrStoreMany(word);
                    break;
                case 0xAC0:
                    testAndSet(word);
                    break;
                case 0xC80:
                case 0xCC0:
                    loadMany(word);
                    break;
                case 0xE40:
                    special(word);
                    break;
                case 0xE80:
                case 0xEC0:
                    jump(word);
                    break;
                default:
                    single(word);
            }
        }

        private void check(int word) {
            if (misfits(DATA, operand(word))) {
                return;
            }
            int bound = (short) access.load(Size.WORD, access.locate(Size.WORD, operand(word)));
            int v = (short) registers.get(upper(word));
            if (v < 0 || v > bound) {
                registers.mark(N, v < 0);
                access.raise(OUT_OF_BOUNDS);
            }
        }

        private void loadAddress(int word) {
            if (!misfits(CONTROL, operand(word))) {
                registers.set(A + upper(word), (int) access.locate(Size.LONG, operand(word)));
            }
        }

        private void moveFromStatus(int word) {
            if (!misfits(DATA_ALTERABLE, operand(word))) {
                access.store(Size.WORD, access.locate(Size.WORD, operand(word)), registers.sr);
            }
        }

        private void moveToStatus(int word) {
            boolean whole = (word & 0x200) != 0;
            if (misfits(DATA, operand(word)) || whole && !permitted()) {
                return;
            }
            int v = access.load(Size.WORD, access.locate(Size.WORD, operand(word)));
            if (whole) {
                registers.setStatus(v);
            } else {
                registers.setFlags(v);
            }
        }

        private void single(int word) {
            int which = upper(word);
            if (isTo(word) || sizeBits(word) == 3 || which > 5) {
                illegal();
                return;
            }
            if (misfits(DATA_ALTERABLE, operand(word))) {
                return;
            }
            Size size = Size.of(sizeBits(word));
            long place = access.locate(size, operand(word));
            int v = access.load(size, place);
            switch (which) {
                case 0:
                    access.store(size, place, arithmetic.joinedWithX(LESS, size, 0, v));
                    break;
                case 1:
                    access.store(size, place, arithmetic.logic(size, 0));
                    break;
                case 2:
                    access.store(size, place, arithmetic.joined(LESS, size, 0, v));
                    break;
                case 3:
                    access.store(size, place, arithmetic.logic(size, ~v));
                    break;
                default:
                    arithmetic.logic(size, v);
            }
        }

        private void negateDecimal(int word) {
            if (!misfits(DATA_ALTERABLE, operand(word))) {
                long place = access.locate(Size.BYTE, operand(word));
                access.store(Size.BYTE, place, arithmetic.decimalMinus(0, access.load(Size.BYTE, place)));
            }
        }

        private void swapOrPushAddress(int word) {
            int y = lower(word);
            if (operand(word) < 8) {
                int v = registers.get(y);
                registers.set(y, arithmetic.logic(Size.LONG, v << 16 | v >>> 16));
            } else if (!misfits(CONTROL, operand(word))) {
                access.push(Size.LONG, (int) access.locate(Size.LONG, operand(word)));
            }
        }

        private void extendOrStoreMany(int word) {
            Size size = manySize(word);
            if (operand(word) < 8) {
                int y = lower(word);
                Size half = size == Size.WORD ? Size.BYTE : Size.WORD;
                access.store(size, Access.inRegister(y), arithmetic.logic(size, half.extend(registers.get(y))));
            } else if (!misfits(CONTROL & ALTERABLE | GOING_DOWN, operand(word))) {
                int list = access.nextWord();
                if (operand(word) >>> 3 == 4) {
                    storeDownward(size, list, A + lower(word));
                } else {
                    storeUpward(size, list, (int) access.locate(size, operand(word)));
                }
            }
        }

        private static Size manySize(int word) {
            return (word & 0x40) == 0 ? Size.WORD : Size.LONG;
        }

        private void storeDownward(Size size, int list, int pointer) {
            int address = registers.get(pointer);
            for (int i = 0; i < 16; i++) {
                if ((list >>> i & 1) != 0) {
                    address -= size.bytes;
                    access.storeAt(size, address, registers.get(15 - i));
                }
            }
            registers.set(pointer, address);
        }

        private void storeUpward(Size size, int list, int start) {
            int address = start;
            for (int i = 0; i < 16; i++) {
                if ((list >>> i & 1) != 0) {
                    access.storeAt(size, address, registers.get(i));
                    address += size.bytes;
                }
            }
        }

        private void loadMany(int word) {
            if (misfits(CONTROL | GOING_UP, operand(word))) {
                return;
            }
            Size size = manySize(word);
            int list = access.nextWord();
            boolean up = operand(word) >>> 3 == 3;
            int pointer = A + lower(word);
            int address = up ? registers.get(pointer) : (int) access.locate(size, operand(word));
            for (int i = 0; i < 16; i++) {
                if ((list >>> i & 1) != 0) {
                    registers.set(i, size.extend(access.loadAt(size, address)));
                    address += size.bytes;
                }
            }
            if (up) {
                registers.set(pointer, address);
            }
        }

        private void testAndSet(int word) {
            if (!misfits(DATA_ALTERABLE, operand(word))) {
                long place = access.locate(Size.BYTE, operand(word));
                int v = access.load(Size.BYTE, place);
                access.store(Size.BYTE, place, arithmetic.logic(Size.BYTE, v) | 0x80);
            }
        }

        private void special(int word) {
            int y = A + lower(word);
            switch (word >>> 3 & 7) {
                case 0:
                case 1:
                    access.raise(TRAPS + (word & 15));
                    break;
                case 2:
                    link(y);
                    break;
                case 3:
                    unlink(y);
                    break;
                case 4:
                    if (permitted()) {
                        registers.setStackOf(0, registers.get(y));
                    }
                    break;
                case 5:
                    if (permitted()) {
                        registers.set(y, registers.stackOf(0));
                    }
                    break;
                case 6:
                    alone(lower(word));
                    break;
                default:
                    illegal();
            }
        }

        private void link(int y) {
            int more = (short) access.nextWord();
            access.push(Size.LONG, registers.get(y));
            registers.set(y, registers.get(A7));
            registers.set(A7, registers.get(A7) + more);
        }

        private void unlink(int y) {
            registers.set(A7, registers.get(y));
            registers.set(y, access.pop(Size.LONG));
        }

        /** The instructions without any operand. */
        private void alone(int which) {
            switch (which) {
                case 0:
                    permitted();
                    break;
                case 1:
                    break;
                case 2:
                    if (permitted()) {
                        registers.setStatus(access.nextWord());
                        stopping = true;
                    }
                    break;
                case 3:
                    if (permitted()) {
                        int status = access.pop(Size.WORD);
                        registers.pc = access.pop(Size.LONG);
                        registers.setStatus(status);
                    }
                    break;
                case 5:
                    registers.pc = access.pop(Size.LONG);
                    break;
                case 6:
                    if (registers.has(V)) {
                        access.raise(OVERFLOWN);
                    }
                    break;
                case 7:
                    registers.setFlags(access.pop(Size.WORD));
                    registers.pc = access.pop(Size.LONG);
                    break;
                default:
                    illegal();
            }
        }

        private void jump(int word) {
            if (misfits(CONTROL, operand(word))) {
                return;
            }
            int target = (int) access.locate(Size.LONG, operand(word));
            if ((word & 0x40) == 0) {
                access.push(Size.LONG, registers.pc);
            }
            registers.pc = target;
        }

        private void lineFive(int word) {
            if (sizeBits(word) != 3) {
                quick(word);
            } else if (operand(word) >>> 3 == 1) {
                countDown(word);
            } else if (!misfits(DATA_ALTERABLE, operand(word))) {
                boolean holds = registers.holds(word >>> 8 & 15);
                access.store(Size.BYTE, access.locate(Size.BYTE, operand(word)), holds ? 0xFF : 0);
            }
        }

        private void countDown(int word) {
            int here = registers.pc;
            int way = (short) access.nextWord();
            if (registers.holds(word >>> 8 & 15)) {
                return;
            }
            long place = Access.inRegister(lower(word));
            int v = access.load(Size.WORD, place) - 1;
            access.store(Size.WORD, place, v);
            if (v != -1) {
                registers.pc = here + way;
            }
        }

        private void quick(int word) {
            Size size = Size.of(sizeBits(word));
            if (misfits(ofSize(ALTERABLE, size), operand(word))) {
                return;
            }
            int number = upper(word) == 0 ? 8 : upper(word);
            if (operand(word) >>> 3 == 1) {
                int k = A + lower(word);
                registers.set(k, registers.get(k) + (isTo(word) ? -number : number));
            } else {
                long place = access.locate(size, operand(word));
                int v = access.load(size, place);
                access.store(size, place, arithmetic.joined(isTo(word) ? LESS : MORE, size, v, number));
            }
        }

        private void branch(int word) {
            int here = registers.pc;
            int way = (byte) word;
            if (way == 0) {
                way = (short) access.nextWord();
            }
            int condition = word >>> 8 & 15;
            if (condition == 1) {
                access.push(Size.LONG, registers.pc);
            }
            if (condition == 1 || registers.holds(condition)) {
                registers.pc = here + way;
            }
        }

        private void moveQuick(int word) {
            if (isTo(word)) {
                illegal();
            } else {
                registers.set(upper(word), arithmetic.logic(Size.LONG, (byte) word));
            }
        }

        private void lineEight(int word) {
            if (sizeBits(word) == 3) {
                divide(word, isTo(word));
            } else if ((word & 0x1F0) == 0x100) {
                decimalPair(word, LESS);
            } else {
                combine(word, OR, isTo(word) ? MEMORY_ALTERABLE : DATA);
            }
        }

        private void lineEleven(int word) {
            if (sizeBits(word) == 3) {
                addressWork(word, COMPARED);
            } else if (!isTo(word)) {
                compare(word);
            } else if (operand(word) >>> 3 == 1) {
                comparePair(word);
            } else {
                combine(word, EXCLUSIVE_OR, DATA_ALTERABLE);
            }
        }

        private void lineTwelve(int word) {
            if (sizeBits(word) == 3) {
                multiply(word, isTo(word));
                return;
            }
            switch (word & 0x1F8) {
                case 0x100:
                case 0x108:
                    decimalPair(word, MORE);
                    break;
                case 0x140:
                    exchange(upper(word), lower(word));
                    break;
                case 0x148:
                    exchange(A + upper(word), A + lower(word));
                    break;
                case 0x188:
                    exchange(upper(word), A + lower(word));
                    break;
                default:
                    combine(word, AND, isTo(word) ? MEMORY_ALTERABLE : DATA);
            }
        }

        private void sums(int word, int how) {
            if (sizeBits(word) == 3) {
                addressWork(word, how);
            } else if ((word & 0x130) == 0x100) {
                pairWithX(word, how);
            } else {
                combine(word, how, isTo(word) ? MEMORY_ALTERABLE : ANY);
            }
        }

        private void combine(int word, int how, int kinds) {
            Size size = Size.of(sizeBits(word));
            if (misfits(ofSize(kinds, size), operand(word))) {
                return;
            }
            long place = access.locate(size, operand(word));
            long data = Access.inRegister(upper(word));
            int v = access.load(size, place);
            int d = access.load(size, data);
            if (isTo(word)) {
                access.store(size, place, arithmetic.joined(how, size, v, d));
            } else {
                access.store(size, data, arithmetic.joined(how, size, d, v));
            }
        }

        private void compare(int word) {
            Size size = Size.of(sizeBits(word));
            if (!misfits(ofSize(ANY, size), operand(word))) {
                int v = access.load(size, access.locate(size, operand(word)));
                arithmetic.compare(size, registers.get(upper(word)), v);
            }
        }

        private void addressWork(int word, int how) {
            if (misfits(ANY, operand(word))) {
                return;
            }
            Size size = isTo(word) ? Size.LONG : Size.WORD;
            int v = size.extend(access.load(size, access.locate(size, operand(word))));
            int k = A + upper(word);
            if (how == COMPARED) {
                arithmetic.compare(Size.LONG, registers.get(k), v);
            } else {
                registers.set(k, registers.get(k) + (how == LESS ? -v : v));
            }
        }

        // The two registers of a pair stand for themselves or, with bit 3, for what is below them.
        private static int pairMode(int word) {
            return (word & 8) != 0 ? DOWN_MODE : 0;
        }

        private void pairWithX(int word, int how) {
            Size size = Size.of(sizeBits(word));
            int first = access.load(size, access.locate(size, pairMode(word) | lower(word)));
            long place = access.locate(size, pairMode(word) | upper(word));
            int second = access.load(size, place);
            access.store(size, place, arithmetic.joinedWithX(how, size, second, first));
        }

        private void decimalPair(int word, int how) {
            int first = access.load(Size.BYTE, access.locate(Size.BYTE, pairMode(word) | lower(word)));
            long place = access.locate(Size.BYTE, pairMode(word) | upper(word));
            int second = access.load(Size.BYTE, place);
            int result = how == LESS ? arithmetic.decimalMinus(second, first) : arithmetic.decimalPlus(second, first);
            access.store(Size.BYTE, place, result);
        }

        private void comparePair(int word) {
            Size size = Size.of(sizeBits(word));
            int first = access.load(size, access.locate(size, UP_MODE | lower(word)));
            int second = access.load(size, access.locate(size, UP_MODE | upper(word)));
            arithmetic.compare(size, second, first);
        }

        private void exchange(int k, int other) {
            int v = registers.get(k);
            registers.set(k, registers.get(other));
            registers.set(other, v);
        }

        private void multiply(int word, boolean signed) {
            if (misfits(DATA, operand(word))) {
                return;
            }
            int r = upper(word);
            int v = access.load(Size.WORD, access.locate(Size.WORD, operand(word)));
            int d = registers.get(r);
            int product = signed ? (short) d * (short) v : (d & 0xFFFF) * v;
            registers.set(r, arithmetic.logic(Size.LONG, product));
        }

        private void divide(int word, boolean signed) {
            if (misfits(DATA, operand(word))) {
                return;
            }
            int r = upper(word);
            int v = access.load(Size.WORD, access.locate(Size.WORD, operand(word)));
            registers.mark(C, false);
            if (v == 0) {
                access.raise(DIVIDED_BY_ZERO);
                return;
            }
            // In longs, since the lowest int by -1 is no int.
            long whole = signed ? registers.get(r) : Size.LONG.unsigned(registers.get(r));
            long part = signed ? (short) v : v;
            long result = whole / part;
            if (result != (signed ? (short) result : result & 0xFFFF)) {
                registers.mark(V, true);
                return;
            }
            int rest = (int) (whole % part);
            registers.set(r, rest << 16 | arithmetic.logic(Size.WORD, (int) result));
        }

        private void shift(int word) {
            boolean left = isTo(word);
            if (sizeBits(word) != 3) {
                Size size = Size.of(sizeBits(word));
                long place = Access.inRegister(lower(word));
                int v = access.load(size, place);
                access.store(size, place, arithmetic.shifted(size, v, times(word), word >>> 3 & 3, left));
            } else if ((word & 0x800) != 0) {
                illegal();
            } else if (!misfits(MEMORY_ALTERABLE, operand(word))) {
                long place = access.locate(Size.WORD, operand(word));
                int v = access.load(Size.WORD, place);
                access.store(Size.WORD, place, arithmetic.shifted(Size.WORD, v, 1, word >>> 9 & 3, left));
            }
        }

        private int times(int word) {
            if ((word & 0x20) != 0) {
                return registers.get(upper(word)) & 63;
            }
            return upper(word) == 0 ? 8 : upper(word);
        }
    }
}
