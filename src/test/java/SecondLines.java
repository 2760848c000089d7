import java.util.ArrayList;
import java.util.List;

/** The instructions of the second machine, a line for each that the document tells, in its order. */
final class SecondLines {
    private interface Fit {
        boolean fits(int e);
    }

    private interface Work {
        void run(Second m, Bits w);
    }

    private interface Joined {
        long of(Second m, long a, long b, int n);
    }

    /** A word, of which the bits have letters. */
    private static final class Bits {
        final String letters;
        final int word;

        Bits(String letters, int word) {
            this.letters = letters;
            this.word = word;
        }

        int of(char letter) {
            int v = 0;
            for (int i = 0; i < 16; i++) {
                if (letters.charAt(i) == letter) {
                    v = 2 * v + (word >>> 15 - i) % 2;
                }
            }
            return v;
        }

        int r() {
            return of('r');
        }

        int y() {
            return of('y');
        }

        int e() {
            return of('e');
        }

        /** The bytes of the size s: 0 byte, 1 word, 2 long. */
        int size() {
            return 1 << of('s');
        }
    }

    /** Bits as the document tells them, the class of the operand e, and what is done. */
    private static final class Line {
        final String letters;
        final Fit kind;
        final Work work;

        Line(String letters, Fit kind, Work work) {
            this.letters = letters.replace(" ", "");
            this.kind = kind;
            this.work = work;
        }

        boolean fits(int word) {
            for (int i = 0; i < 16; i++) {
                char letter = letters.charAt(i);
                if (letter <= '1' && letter - '0' != (word >>> 15 - i) % 2) {
                    return false;
                }
            }
            Bits w = new Bits(letters, word);
            boolean sized = letters.contains("ss");
            if (sized && (w.of('s') == 3 || w.of('s') == 0 && w.e() / 8 == 1)) {
                return false;
            }
            boolean moves = letters.contains("mmm");
            return kind.fits(w.e()) && (!moves || DATA_ALTERABLE.fits(w.of('m') * 8 + w.r()));
        }
    }

    private static final Fit ANY = e -> e <= 7 * 8 + 4;
    private static final Fit DATA = e -> ANY.fits(e) && e / 8 != 1;
    private static final Fit MEMORY = e -> ANY.fits(e) && e / 8 > 1;
    private static final Fit CONTROL = e -> MEMORY.fits(e) && e / 8 != 3 && e / 8 != 4 && e != 7 * 8 + 4;
    private static final Fit ALTERABLE = e -> e < 7 * 8 + 2;
    private static final Fit DATA_ALTERABLE = e -> DATA.fits(e) && ALTERABLE.fits(e);
    private static final Fit MEMORY_ALTERABLE = e -> MEMORY.fits(e) && ALTERABLE.fits(e);

    private static final Joined OR = (m, a, b, n) -> m.logic(a | b, n);
    private static final Joined AND = (m, a, b, n) -> m.logic(a & b, n);
    private static final Joined EXCLUSIVE = (m, a, b, n) -> m.logic(a ^ b, n);
    private static final Joined LESS = (m, a, b, n) -> carried(m, m.difference(a, b, 0, n));
    private static final Joined MORE = (m, a, b, n) -> carried(m, m.sum(a, b, 0, n));
    private static final Joined LESS_X = (m, a, b, n) -> {
        boolean z = m.flag(2);
        return carried(m, zeroStays(m, z, m.difference(a, b, m.x(), n)));
    };
    private static final Joined MORE_X = (m, a, b, n) -> {
        boolean z = m.flag(2);
        return carried(m, zeroStays(m, z, m.sum(a, b, m.x(), n)));
    };

    private static final List<Line> LINES = new ArrayList<>();
    private static final Line[] TABLE = new Line[65536];

    static {
        status();
        bits();
        numbers();
        moves();
        singles();
        many();
        specials();
        conditions();
        twoOperands();
        pairs();
        shifts();
        for (int word = 0; word < 65536; word++) {
            TABLE[word] = only(word);
        }
    }

    private SecondLines() {
    }

    private static void line(String letters, Fit kind, Work work) {
        LINES.add(new Line(letters, kind, work));
    }

    private static void line(String letters, Work work) {
        line(letters, e -> true, work);
    }

    /** The line that a word fits, or null; that it fits two would be a fault of the lines. */
    private static Line only(int word) {
        Line found = null;
        for (Line line : LINES) {
            if (line.fits(word)) {
                if (found != null) {
                    throw new IllegalStateException(word + " fits " + found.letters + " and " + line.letters);
                }
                found = line;
            }
        }
        return found;
    }

    static boolean isInstruction(int word) {
        return TABLE[word] != null;
    }

    static void obey(Second m, int word) {
        if (word >= 0xF000) {
            m.raise(11);
        }
        if (word / 4096 == 10) {
            m.raise(10);
        }
        Line line = TABLE[word];
        if (line == null) {
            m.raise(4);
        } else {
            line.work.run(m, new Bits(line.letters, word));
        }
    }

    private static long carried(Second m, long result) {
        m.setX(m.flag(0));
        return result;
    }

    private static long zeroStays(Second m, boolean z, long result) {
        m.setZ(z && result == 0);
        return result;
    }

    private static void status() {
        line("0000 0000 0011 1100", (m, w) -> m.setCcr(m.status() | m.extension()));
        line("0000 0010 0011 1100", (m, w) -> m.setCcr(m.status() & m.extension()));
        line("0000 1010 0011 1100", (m, w) -> m.setCcr(m.status() ^ m.extension()));
        supervisors("0000 0000 0111 1100", (m, w) -> m.setStatus(m.status() | m.extension()));
        supervisors("0000 0010 0111 1100", (m, w) -> m.setStatus(m.status() & m.extension()));
        supervisors("0000 1010 0111 1100", (m, w) -> m.setStatus(m.status() ^ m.extension()));
        line("0100 0000 11ee eeee", DATA_ALTERABLE, (m, w) -> m.set(m.place(w.e(), 2), 2, m.status()));
        line("0100 0100 11ee eeee", DATA, (m, w) -> m.setCcr((int) m.get(m.place(w.e(), 2), 2)));
        line("0100 0110 11ee eeee", DATA, (m, w) -> {
            m.supervisorOnly();
            m.setStatus((int) m.get(m.place(w.e(), 2), 2));
        });
    }

    private static void supervisors(String letters, Work work) {
        line(letters, (m, w) -> {
            m.supervisorOnly();
            work.run(m, w);
        });
    }

    private static void bits() {
        line("0000 rrr1 kk00 1yyy", SecondLines::bytesApart);
        line("0000 rrr1 00ee eeee", DATA, (m, w) -> bit(m, w, m.register(w.r()), 0));
        line("0000 1000 00ee eeee", e -> DATA.fits(e) && e != 7 * 8 + 4, (m, w) -> bit(m, w, m.extension(), 0));
        String[] kinds = {"01", "10", "11"};
        for (int i = 0; i < 3; i++) {
            int t = i + 1;
            line("0000 rrr1 " + kinds[i] + "ee eeee", DATA_ALTERABLE, (m, w) -> bit(m, w, m.register(w.r()), t));
            line("0000 1000 " + kinds[i] + "ee eeee", DATA_ALTERABLE, (m, w) -> bit(m, w, m.extension(), t));
        }
    }

    private static void bytesApart(Second m, Bits w) {
        int address = m.register(8 + w.y()) + (int) Second.signed(m.extension(), 2);
        int n = w.of('k') % 2 == 0 ? 2 : 4;
        if (w.of('k') < 2) {
            long v = 0;
            for (int i = 0; i < n; i++) {
                v = v * 256 + m.getAt(address + 2 * i, 1);
            }
            m.set(Second.inRegister(w.r()), n, v);
        } else {
            for (int i = 0; i < n; i++) {
                m.setAt(address + 2 * i, 1, m.register(w.r()) >> 8 * (n - 1 - i));
            }
        }
    }

    private static void bit(Second m, Bits w, int number, int t) {
        int n = w.e() / 8 == 0 ? 4 : 1;
        Second.Place place = m.place(w.e(), n);
        long v = m.get(place, n);
        long one = 1L << Math.floorMod(number, 8 * n);
        boolean isOne = v / one % 2 == 1;
        m.setZ(!isOne);
        boolean becomesOne = t == 3 || t == 1 && !isOne;
        if (t != 0) {
            m.set(place, n, v - (isOne ? one : 0) + (becomesOne ? one : 0));
        }
    }

    private static void numbers() {
        inFront("0000 0000 ssee eeee", OR);
        inFront("0000 0010 ssee eeee", AND);
        inFront("0000 0100 ssee eeee", LESS);
        inFront("0000 0110 ssee eeee", MORE);
        inFront("0000 1010 ssee eeee", EXCLUSIVE);
        line("0000 1100 ssee eeee", DATA_ALTERABLE, (m, w) -> {
            int source = m.inCode(w.size());
            m.difference(m.get(m.place(w.e(), w.size()), w.size()), source, 0, w.size());
        });
    }

    private static void inFront(String letters, Joined how) {
        line(letters, DATA_ALTERABLE, (m, w) -> {
            int source = m.inCode(w.size());
            Second.Place place = m.place(w.e(), w.size());
            m.set(place, w.size(), how.of(m, m.get(place, w.size()), source, w.size()));
        });
    }

    private static void moves() {
        move("0001 rrrm mmee eeee", DATA, 1);
        move("0011 rrrm mmee eeee", ANY, 2);
        move("0010 rrrm mmee eeee", ANY, 4);
        line("0011 rrr0 01ee eeee", ANY, (m, w) -> m.put(8 + w.r(), (int) Second.signed(m.get(m.place(w.e(), 2), 2), 2)));
        line("0010 rrr0 01ee eeee", ANY, (m, w) -> m.put(8 + w.r(), (int) m.get(m.place(w.e(), 4), 4)));
        line("0111 rrr0 dddd dddd", (m, w) -> m.put(w.r(), (int) m.logic(Second.signed(w.of('d'), 1), 4)));
    }

    private static void move(String letters, Fit kind, int n) {
        line(letters, kind, (m, w) -> {
            long v = m.get(m.place(w.e(), n), n);
            m.set(m.place(w.of('m') * 8 + w.r(), n), n, v);
            m.logic(v, n);
        });
    }

    private interface Single {
        long of(Second m, long v, int n);
    }

    private static void single(String letters, Single how) {
        line(letters, DATA_ALTERABLE, (m, w) -> {
            int n = letters.contains("ss") ? w.size() : 1;
            Second.Place place = m.place(w.e(), n);
            m.set(place, n, how.of(m, m.get(place, n), n));
        });
    }

    private static void singles() {
        single("0100 0000 ssee eeee", (m, v, n) -> LESS_X.of(m, 0, v, n));
        single("0100 0010 ssee eeee", (m, v, n) -> m.logic(0, n));
        single("0100 0100 ssee eeee", (m, v, n) -> LESS.of(m, 0, v, n));
        single("0100 0110 ssee eeee", (m, v, n) -> m.logic(-1 - v, n));
        single("0100 1010 ssee eeee", (m, v, n) -> m.logic(v, n));
        single("0100 1000 00ee eeee", (m, v, n) -> decimalLess(m, 0, (int) v));
        single("0100 1010 11ee eeee", (m, v, n) -> m.logic(v, n) | 0x80);
        line("0100 1000 0100 0yyy", (m, w) -> {
            long v = m.get(Second.inRegister(w.y()), 4);
            m.put(w.y(), (int) m.logic(v % 65536 * 65536 + v / 65536, 4));
        });
        line("0100 1000 01ee eeee", CONTROL, (m, w) -> m.push(4, m.address(w.e())));
        line("0100 1000 1000 0yyy", (m, w) -> {
            Second.Place place = Second.inRegister(w.y());
            m.set(place, 2, m.logic(Second.signed(m.register(w.y()), 1), 2));
        });
        line("0100 1000 1100 0yyy", (m, w) -> m.put(w.y(), (int) m.logic(Second.signed(m.register(w.y()), 2), 4)));
    }

    private static int decimalLess(Second m, int a, int b) {
        int v = a % 16 - b % 16 - m.x();
        if (v < 0) {
            v -= 6;
        }
        v += (a / 16 - b / 16) * 16;
        m.setC(v < 0);
        return decimal(m, v < 0 ? v - 0x60 : v);
    }

    private static int decimalMore(Second m, int a, int b) {
        int v = a % 16 + b % 16 + m.x();
        if (v > 9) {
            v += 6;
        }
        v += (a / 16 + b / 16) * 16;
        m.setC(v > 0x9F);
        return decimal(m, v > 0x9F ? v + 0x60 : v);
    }

    private static int decimal(Second m, int v) {
        m.setX(m.flag(0));
        int cut = Math.floorMod(v, 256);
        if (cut != 0) {
            m.setZ(false);
        }
        return cut;
    }

    private static void many() {
        line("0100 1000 1see eeee", e -> CONTROL.fits(e) && ALTERABLE.fits(e), (m, w) -> {
            int n = w.of('s') == 0 ? 2 : 4;
            int list = m.extension();
            int address = m.address(w.e());
            for (int k = 0; k < 16; k++) {
                if ((list >>> k) % 2 == 1) {
                    m.setAt(address, n, m.register(k));
                    address += n;
                }
            }
        });
        line("0100 1000 1s10 0yyy", (m, w) -> {
            int n = w.of('s') == 0 ? 2 : 4;
            int list = m.extension();
            int address = m.register(8 + w.y());
            for (int k = 15; k >= 0; k--) {
                if ((list >>> 15 - k) % 2 == 1) {
                    address -= n;
                    m.setAt(address, n, m.register(k));
                }
            }
            m.put(8 + w.y(), address);
        });
        line("0100 1100 1see eeee", CONTROL, (m, w) -> {
            int list = m.extension();
            loadMany(m, list, m.address(w.e()), w.of('s') == 0 ? 2 : 4);
        });
        line("0100 1100 1s01 1yyy", (m, w) -> {
            int list = m.extension();
            m.put(8 + w.y(), loadMany(m, list, m.register(8 + w.y()), w.of('s') == 0 ? 2 : 4));
        });
    }

    private static int loadMany(Second m, int list, int from, int n) {
        int address = from;
        for (int k = 0; k < 16; k++) {
            if ((list >>> k) % 2 == 1) {
                m.put(k, (int) Second.signed(m.getAt(address, n), n));
                address += n;
            }
        }
        return address;
    }

    private static void specials() {
        line("0100 1110 0100 vvvv", (m, w) -> m.raise(32 + w.of('v')));
        line("0100 1110 0101 0yyy", (m, w) -> {
            int more = (int) Second.signed(m.extension(), 2);
            m.push(4, m.register(8 + w.y()));
            m.put(8 + w.y(), m.register(15));
            m.put(15, m.register(15) + more);
        });
        line("0100 1110 0101 1yyy", (m, w) -> {
            m.put(15, m.register(8 + w.y()));
            m.put(8 + w.y(), m.pop(4));
        });
        supervisors("0100 1110 0110 0yyy", (m, w) -> m.put(18, m.register(8 + w.y())));
        supervisors("0100 1110 0110 1yyy", (m, w) -> m.put(8 + w.y(), m.register(18)));
        supervisors("0100 1110 0111 0000", (m, w) -> { });
        line("0100 1110 0111 0001", (m, w) -> { });
        supervisors("0100 1110 0111 0010", (m, w) -> {
            m.setStatus(m.extension());
            m.waitForInterrupt();
        });
        supervisors("0100 1110 0111 0011", (m, w) -> {
            int status = m.pop(2);
            m.jump(m.pop(4));
            m.setStatus(status);
        });
        line("0100 1110 0111 0101", (m, w) -> m.jump(m.pop(4)));
        line("0100 1110 0111 0110", (m, w) -> {
            if (m.flag(1)) {
                m.raise(7);
            }
        });
        line("0100 1110 0111 0111", (m, w) -> {
            m.setCcr(m.pop(2));
            m.jump(m.pop(4));
        });
        line("0100 1110 10ee eeee", CONTROL, (m, w) -> {
            int address = m.address(w.e());
            m.push(4, m.pc());
            m.jump(address);
        });
        line("0100 1110 11ee eeee", CONTROL, (m, w) -> m.jump(m.address(w.e())));
        line("0100 rrr1 10ee eeee", DATA, SecondLines::check);
        line("0100 rrr1 11ee eeee", CONTROL, (m, w) -> m.put(8 + w.r(), m.address(w.e())));
    }

    private static void check(Second m, Bits w) {
        long bound = Second.signed(m.get(m.place(w.e(), 2), 2), 2);
        long v = Second.signed(m.register(w.r()), 2);
        if (v < 0) {
            m.setN(true);
            m.raise(6);
        }
        if (v > bound) {
            m.setN(false);
            m.raise(6);
        }
    }

    private static void conditions() {
        line("0101 cccc 1100 1yyy", (m, w) -> {
            int from = m.pc();
            long way = Second.signed(m.extension(), 2);
            if (!m.holds(w.of('c'))) {
                Second.Place place = Second.inRegister(w.y());
                m.set(place, 2, m.get(place, 2) - 1);
                if (m.get(place, 2) != 65535) {
                    m.jump(from + (int) way);
                }
            }
        });
        line("0101 cccc 11ee eeee", DATA_ALTERABLE, (m, w) -> m.set(m.place(w.e(), 1), 1, m.holds(w.of('c')) ? 255 : 0));
        quick("0101 rrr0 ssee eeee", MORE, 1);
        quick("0101 rrr1 ssee eeee", LESS, -1);
        line("0110 cccc dddd dddd", (m, w) -> {
            int from = m.pc();
            int way = (int) (w.of('d') == 0 ? Second.signed(m.extension(), 2) : Second.signed(w.of('d'), 1));
            if (w.of('c') == 1) {
                m.push(4, m.pc());
            }
            if (w.of('c') == 1 || m.holds(w.of('c'))) {
                m.jump(from + way);
            }
        });
    }

    private static int eightForZero(int r) {
        return r == 0 ? 8 : r;
    }

    private static void quick(String letters, Joined how, int sign) {
        line(letters, ALTERABLE, (m, w) -> {
            int number = eightForZero(w.r());
            if (w.e() / 8 == 1) {
                m.put(w.e(), m.register(w.e()) + sign * number);
            } else {
                Second.Place place = m.place(w.e(), w.size());
                m.set(place, w.size(), how.of(m, m.get(place, w.size()), number, w.size()));
            }
        });
    }

    private static void twoOperands() {
        both("1000 rrr", OR, DATA);
        both("1100 rrr", AND, DATA);
        both("1101 rrr", MORE, ANY);
        both("1001 rrr", LESS, ANY);
        line("1011 rrr0 ssee eeee", ANY, (m, w) -> {
            long v = m.get(m.place(w.e(), w.size()), w.size());
            m.difference(m.register(w.r()), v, 0, w.size());
        });
        toOperand("1011 rrr1 ssee eeee", EXCLUSIVE, DATA_ALTERABLE);
        line("1000 rrr0 11ee eeee", DATA, (m, w) -> divide(m, w, false));
        line("1000 rrr1 11ee eeee", DATA, (m, w) -> divide(m, w, true));
        line("1100 rrr0 11ee eeee", DATA, (m, w) -> {
            long v = m.get(m.place(w.e(), 2), 2);
            m.put(w.r(), (int) m.logic(m.get(Second.inRegister(w.r()), 2) * v, 4));
        });
        line("1100 rrr1 11ee eeee", DATA, (m, w) -> {
            long v = Second.signed(m.get(m.place(w.e(), 2), 2), 2);
            m.put(w.r(), (int) m.logic(Second.signed(m.register(w.r()), 2) * v, 4));
        });
        for (int n = 2; n <= 4; n += 2) {
            String t = n == 2 ? "0" : "1";
            int size = n;
            line("1001 rrr" + t + " 11ee eeee", ANY, (m, w) -> {
                long v = Second.signed(m.get(m.place(w.e(), size), size), size);
                m.put(8 + w.r(), (int) (m.register(8 + w.r()) - v));
            });
            line("1101 rrr" + t + " 11ee eeee", ANY, (m, w) -> {
                long v = Second.signed(m.get(m.place(w.e(), size), size), size);
                m.put(8 + w.r(), (int) (m.register(8 + w.r()) + v));
            });
            line("1011 rrr" + t + " 11ee eeee", ANY, (m, w) -> {
                long v = Second.signed(m.get(m.place(w.e(), size), size), size);
                m.difference(m.register(8 + w.r()), v, 0, 4);
            });
        }
    }

    private static void both(String beginning, Joined how, Fit kind) {
        line(beginning + "0 ssee eeee", kind, (m, w) -> {
            long v = m.get(m.place(w.e(), w.size()), w.size());
            Second.Place data = Second.inRegister(w.r());
            m.set(data, w.size(), how.of(m, m.get(data, w.size()), v, w.size()));
        });
        toOperand(beginning + "1 ssee eeee", how, MEMORY_ALTERABLE);
    }

    private static void toOperand(String letters, Joined how, Fit kind) {
        line(letters, kind, (m, w) -> {
            Second.Place place = m.place(w.e(), w.size());
            long d = m.get(Second.inRegister(w.r()), w.size());
            m.set(place, w.size(), how.of(m, m.get(place, w.size()), d, w.size()));
        });
    }

    private static void divide(Second m, Bits w, boolean withSigns) {
        long v = m.get(m.place(w.e(), 2), 2);
        m.setC(false);
        if (v == 0) {
            m.raise(5);
        }
        long by = withSigns ? Second.signed(v, 2) : v;
        long whole = withSigns ? m.register(w.r()) : m.get(Second.inRegister(w.r()), 4);
        long result = whole / by;
        boolean isWord = withSigns ? result >= -32768 && result <= 32767 : result <= 65535;
        m.setV(!isWord);
        if (isWord) {
            m.setN(Second.signed(result, 2) < 0);
            m.setZ(result == 0);
            m.put(w.r(), (int) ((whole - result * by) * 65536 + (result & 65535)));
        }
    }

    private static void pairs() {
        pair("1000 rrr1 0000 ", (m, a, b, n) -> decimalLess(m, (int) a, (int) b));
        pair("1100 rrr1 0000 ", (m, a, b, n) -> decimalMore(m, (int) a, (int) b));
        pair("1001 rrr1 ss00 ", LESS_X);
        pair("1101 rrr1 ss00 ", MORE_X);
        line("1011 rrr1 ss00 1yyy", (m, w) -> {
            long first = m.get(m.place(3 * 8 + w.y(), w.size()), w.size());
            long second = m.get(m.place(3 * 8 + w.r(), w.size()), w.size());
            m.difference(second, first, 0, w.size());
        });
        line("1100 rrr1 0100 0yyy", (m, w) -> exchange(m, w.r(), w.y()));
        line("1100 rrr1 0100 1yyy", (m, w) -> exchange(m, 8 + w.r(), 8 + w.y()));
        line("1100 rrr1 1000 1yyy", (m, w) -> exchange(m, w.r(), 8 + w.y()));
    }

    private static void pair(String beginning, Joined how) {
        line(beginning + "myyy", (m, w) -> {
            int mode = w.of('m') == 1 ? 4 * 8 : 0;
            long first = m.get(m.place(mode + w.y(), w.size()), w.size());
            Second.Place place = m.place(mode + w.r(), w.size());
            m.set(place, w.size(), how.of(m, m.get(place, w.size()), first, w.size()));
        });
    }

    private static void exchange(Second m, int a, int b) {
        int v = m.register(a);
        m.put(a, m.register(b));
        m.put(b, v);
    }

    private static void shifts() {
        line("1110 rrrd ss0t tyyy", (m, w) -> {
            Second.Place place = Second.inRegister(w.y());
            m.set(place, w.size(), shifted(m, w, m.get(place, w.size()), eightForZero(w.r()), w.size()));
        });
        line("1110 rrrd ss1t tyyy", (m, w) -> {
            Second.Place place = Second.inRegister(w.y());
            int times = Math.floorMod(m.register(w.r()), 64);
            m.set(place, w.size(), shifted(m, w, m.get(place, w.size()), times, w.size()));
        });
        line("1110 0ttd 11ee eeee", MEMORY_ALTERABLE, (m, w) -> {
            Second.Place place = m.place(w.e(), 2);
            m.set(place, 2, shifted(m, w, m.get(place, 2), 1, 2));
        });
    }

    /** The bits as a row, the highest one first: one goes out at an end, another one comes in at the other. */
    private static long shifted(Second m, Bits w, long v, int times, int n) {
        int t = w.of('t');
        boolean left = w.of('d') == 1;
        StringBuilder row = new StringBuilder(Long.toBinaryString(v | 1L << 8 * n)).deleteCharAt(0);
        char x = m.flag(4) ? '1' : '0';
        char out = t == 2 ? x : '0';
        boolean changed = false;
        for (int i = 0; i < times; i++) {
            char top = row.charAt(0);
            out = left ? top : row.charAt(8 * n - 1);
            char in = t == 3 ? out : t == 2 ? x : t == 0 && !left ? top : '0';
            row.deleteCharAt(left ? 0 : 8 * n - 1).insert(left ? 8 * n - 1 : 0, in);
            changed |= row.charAt(0) != top;
            x = t == 3 ? x : out;
        }
        long result = m.logic(Long.parseLong(row.toString(), 2), n);
        m.setX(x == '1');
        m.setC(out == '1');
        m.setV(t == 0 && left && changed);
        return result;
    }
}
