import java.util.Arrays;

/**
 * A second machine of the document, to compare the class with: written from its words alone and in
 * another way. Each instruction is a line with the bits as the document tells them; what does not count
 * in the end is undone by copies of everything; flags are reckoned from the numbers themselves.
 */
final class Second {
    static final int GOES_ON = 0;
    static final int WAITS = 1;
    static final int HALTED = 2;

    private static final int PC = 16;
    private static final int SR = 17;
    private static final int C = 0;
    private static final int V = 1;
    private static final int Z = 2;
    private static final int N = 3;
    private static final int X = 4;
    private static final int S = 13;
    private static final int T = 15;

    /** An instruction ended by an exception. */
    private static final class Raised extends RuntimeException {
        private static final long serialVersionUID = 1;
        final int number;
        final int address;

        Raised(int number, int address) {
            super(null, null, false, false);
            this.number = number;
            this.address = address;
        }
    }

    /** An operand that has been reckoned: a register, a number that stood in the code, or an address. */
    static final class Place {
        final char kind;
        final int number;

        Place(char kind, int number) {
            this.kind = kind;
            this.number = number;
        }
    }

    // As the calls number them; 15 is not used.
    private final int[] registers = new int[20];
    private final int[] memory = new int[4096];
    private final int[] registersBefore = new int[20];
    private final int[] memoryBefore = new int[4096];
    private final int[] counts = new int[64];
    private final boolean[] touched = new boolean[4096];
    private int wanted;
    private int state;
    private boolean waiting;

    Second() {
        reset();
    }

    // What the calls of the class do.

    void reset() {
        Arrays.fill(registers, 0);
        registers[PC] = 0x400;
        registers[19] = 0x400;
        registers[SR] = 1 << S;
        Arrays.fill(counts, 0);
        wanted = 0;
        state = GOES_ON;
    }

    int register(int k) {
        return registers[k == 15 ? stack() : k];
    }

    void put(int k, int v) {
        registers[k == 15 ? stack() : k] = k == SR ? v & 0xA71F : v;
    }

    void write(int address, int v, int n) {
        for (int i = 0; i < n; i++) {
            int at = Math.floorMod(address + i, 4096);
            memory[at] = v >>> 8 * (n - 1 - i) & 0xFF;
            touched[at] = true;
        }
    }

    int read(int address, int n) {
        int v = 0;
        for (int i = 0; i < n; i++) {
            v = v * 256 + memory[Math.floorMod(address + i, 4096)];
        }
        return v;
    }

    void want(int level) {
        wanted = level;
    }

    int state() {
        return state;
    }

    int exceptions(int n) {
        return counts[n];
    }

    int sum() {
        int sum = 0;
        for (int a = 0; a < 4096; a++) {
            sum += memory[a] * (a + 1);
        }
        return sum;
    }

    /** Whether a byte was written since the last call of forgetTouched. */
    boolean wasTouched(int address) {
        return touched[address];
    }

    void forgetTouched() {
        Arrays.fill(touched, false);
    }

    int step(int n) {
        for (int i = 0; i < n; i++) {
            if (!stepOnce()) {
                return i;
            }
        }
        return n;
    }

    private boolean stepOnce() {
        if (state == HALTED) {
            return false;
        }
        if (wanted == 7 || wanted > (registers[SR] >>> 8) % 8) {
            interrupt();
            return true;
        }
        if (state == WAITS) {
            return false;
        }
        instruction();
        return true;
    }

    private void interrupt() {
        int level = wanted;
        wanted = 0;
        state = GOES_ON;
        exception(24 + level, 0, 0);
        if (state != HALTED) {
            registers[SR] = registers[SR] & 0xF8FF | level * 256;
        }
    }

    private void instruction() {
        System.arraycopy(registers, 0, registersBefore, 0, 20);
        System.arraycopy(memory, 0, memoryBefore, 0, 4096);
        boolean traced = flag(T);
        waiting = false;
        int word = 0;
        try {
            if (isOdd(registers[PC])) {
                throw new Raised(3, registers[PC]);
            }
            word = extension();
            SecondLines.obey(this, word);
        } catch (Raised e) {
            boolean undone = e.number == 3 || e.number == 4 || e.number == 8 || e.number == 10 || e.number == 11;
            if (undone) {
                System.arraycopy(registersBefore, 0, registers, 0, 20);
                System.arraycopy(memoryBefore, 0, memory, 0, 4096);
            }
            exception(e.number, word, e.address);
            if (undone) {
                return;
            }
        }
        if (traced && state != HALTED) {
            exception(9, 0, 0);
        } else if (waiting && !traced) {
            state = WAITS;
        }
    }

    private void exception(int n, int word, int address) {
        int status = registers[SR];
        setFlag(S, true);
        setFlag(T, false);
        if (isOdd(registers[19])) {
            state = HALTED;
            return;
        }
        push(4, registers[PC]);
        push(2, status);
        if (n == 3) {
            push(2, word);
            push(4, address);
            push(2, 0);
        }
        registers[PC] = read(4 * n, 4);
        counts[n]++;
        counts[0]++;
    }

    // What the lines are made of.

    static boolean isOdd(int address) {
        return address % 2 != 0;
    }

    void raise(int n) {
        throw new Raised(n, 0);
    }

    void supervisorOnly() {
        if (!flag(S)) {
            raise(8);
        }
    }

    void waitForInterrupt() {
        waiting = true;
    }

    int stack() {
        return flag(S) ? 19 : 18;
    }

    int pc() {
        return registers[PC];
    }

    void jump(int address) {
        registers[PC] = address;
    }

    int status() {
        return registers[SR];
    }

    void setStatus(int v) {
        put(SR, v);
    }

    void setCcr(int v) {
        put(SR, registers[SR] / 256 * 256 + (v & 0xFF));
    }

    boolean flag(int bit) {
        return (registers[SR] >>> bit) % 2 == 1;
    }

    void setFlag(int bit, boolean on) {
        int others = registers[SR] - (flag(bit) ? 1 << bit : 0);
        registers[SR] = others + (on ? 1 << bit : 0);
    }

    void setX(boolean on) {
        setFlag(X, on);
    }

    void setC(boolean on) {
        setFlag(C, on);
    }

    void setV(boolean on) {
        setFlag(V, on);
    }

    void setN(boolean on) {
        setFlag(N, on);
    }

    void setZ(boolean on) {
        setFlag(Z, on);
    }

    int x() {
        return flag(X) ? 1 : 0;
    }

    boolean holds(int condition) {
        boolean c = flag(C);
        boolean v = flag(V);
        boolean z = flag(Z);
        boolean n = flag(N);
        boolean[] all = {
            true, false, !c && !z, c || z, !c, c, !z, z, !v, v, !n, n, n == v, n != v, !z && n == v, z || n != v,
        };
        return all[condition];
    }

    int extension() {
        int v = read(registers[PC], 2);
        registers[PC] += 2;
        return v;
    }

    /** A number in extension words of a size. */
    int inCode(int n) {
        int first = extension();
        return n == 4 ? first * 65536 + extension() : n == 2 ? first : first % 256;
    }

    void push(int n, int v) {
        registers[stack()] -= n;
        setAt(registers[stack()], n, v);
    }

    int pop(int n) {
        int v = (int) getAt(registers[stack()], n);
        registers[stack()] += n;
        return v;
    }

    long getAt(int address, int n) {
        if (n > 1 && isOdd(address)) {
            throw new Raised(3, address);
        }
        return read(address, n) & 0xFFFFFFFFL;
    }

    void setAt(int address, int n, int v) {
        if (n > 1 && isOdd(address)) {
            throw new Raised(3, address);
        }
        write(address, v, n);
    }

    static long largest(int n) {
        return (1L << 8 * n) - 1;
    }

    /** The number with a sign that the bits of a size are. */
    static long signed(long v, int n) {
        long cut = v & largest(n);
        return cut > largest(n) / 2 ? cut - largest(n) - 1 : cut;
    }

    static Place inRegister(int k) {
        return new Place('r', k);
    }

    /** The operand of the six bits e; its Ay goes up or down, its extension words are taken. */
    Place place(int e, int n) {
        int mode = e / 8;
        int y = e % 8;
        int step = n == 1 && y == 7 ? 2 : n;
        switch (mode) {
            case 0:
                return inRegister(y);
            case 1:
                return inRegister(8 + y);
            case 3:
                put(8 + y, register(8 + y) + step);
                return new Place('a', register(8 + y) - step);
            case 4:
                put(8 + y, register(8 + y) - step);
                return new Place('a', register(8 + y));
            default:
                return mode == 7 && y == 4 ? new Place('i', inCode(n)) : new Place('a', address(e));
        }
    }

    /** The address that an operand of the class control tells. */
    int address(int e) {
        int y = e % 8;
        int here = registers[PC];
        switch (e / 8) {
            case 2:
                return register(8 + y);
            case 5:
                return register(8 + y) + (int) signed(extension(), 2);
            case 6:
                return register(8 + y) + index(extension());
            default:
                break;
        }
        switch (y) {
            case 0:
                return (int) signed(extension(), 2);
            case 1:
                return inCode(4);
            case 2:
                return here + (int) signed(extension(), 2);
            default:
                return here + index(extension());
        }
    }

    private int index(int word) {
        int v = register(word / 4096);
        boolean whole = word / 2048 % 2 == 1;
        return (int) signed(word, 1) + (whole ? v : (int) signed(v, 2));
    }

    long get(Place place, int n) {
        switch (place.kind) {
            case 'r':
                return register(place.number) & largest(n);
            case 'i':
                return place.number & largest(n);
            default:
                return getAt(place.number, n);
        }
    }

    void set(Place place, int n, long v) {
        if (place.kind == 'r') {
            long rest = register(place.number) & 0xFFFFFFFFL & ~largest(n);
            put(place.number, (int) (rest | v & largest(n)));
        } else {
            setAt(place.number, n, (int) v);
        }
    }

    long logic(long v, int n) {
        setN(signed(v, n) < 0);
        setZ((v & largest(n)) == 0);
        setV(false);
        setC(false);
        return v & largest(n);
    }

    /** The sum of a and b, and 1 if more is 1, with the flags N, Z, V and C. */
    long sum(long a, long b, int more, int n) {
        return told(signed(a, n) + signed(b, n) + more, (a & largest(n)) + (b & largest(n)) + more, n);
    }

    long difference(long a, long b, int more, int n) {
        return told(signed(a, n) - signed(b, n) - more, (a & largest(n)) - (b & largest(n)) - more, n);
    }

    private long told(long withSigns, long without, int n) {
        long result = logic(without, n);
        setV(signed(result, n) != withSigns);
        setC(result != without);
        return result;
    }
}
