/** Promises 10 to 16: bits, bit, clear, putNumber, takeNumber, put, take. */
public final class StreamTest {
    private static final int UNKNOWN = PrefixCodes.UNKNOWN;
    private static final int OUTSIDE = PrefixCodes.OUTSIDE;
    private static final int STATE = PrefixCodes.STATE;
    private static final int ENDED = PrefixCodes.ENDED;
    private static final int BAD = PrefixCodes.BAD;
    private static final int ROOM = PrefixCodes.ROOM;

    public static void main(String[] args) {
        bitsAndBit();
        clear();
        putNumber();
        takeNumber();
        fullStream();
        ringOfBits();
        put();
        putWithoutRoom();
        take();
        takeBack();
        takeEnded();
        takeBad();
        takeRefused();
        takeLongWords();
        Check.end();
    }

    private static void bitsAndBit() {
        PrefixCodes x = new PrefixCodes();
        Check.due("10: at first", x.bits(), 0);
        x.putNumber(0b10110, 5);
        Check.due("10: behind five", x.bits(), 5);
        int[] bits = {1, 0, 1, 1, 0};
        for (int i = 0; i < 5; i++) {
            Check.due("11: bit " + i, x.bit(i), bits[i]);
        }
        Check.dueOutOfBounds("11: bit(5)", () -> x.bit(5));
        Check.dueOutOfBounds("11: bit(-1)", () -> x.bit(-1));
        Check.dueOutOfBounds("11: the least number", () -> x.bit(Integer.MIN_VALUE));
        Check.dueOutOfBounds("11: the greatest number", () -> x.bit(Integer.MAX_VALUE));
        x.takeNumber(1);
        Check.due("10: one is taken", x.bits(), 4);
        Check.due("11: the second is the first then", x.bit(0), 0);
        Check.dueOutOfBounds("11: the last is gone up", () -> x.bit(4));
    }

    private static void clear() {
        PrefixCodes x = new PrefixCodes();
        Check.due("12: of none", x.clear(), 0);
        x.putNumber(-1, 30);
        x.takeNumber(3);
        Check.due("12: how many", x.clear(), 27);
        Check.due("12: none are left", x.bits(), 0);
        Check.dueOutOfBounds("12: bit(0)", () -> x.bit(0));
        x.putNumber(4, 3);
        Check.dueBits("12: what is put then", x, "100");
    }

    private static void putNumber() {
        PrefixCodes x = new PrefixCodes();
        Check.due("13: one bit", x.putNumber(1, 1), 1);
        Check.due("13: the lowest bits alone", x.putNumber(0b11101, 3), 4);
        Check.due("13: of a number below 0", x.putNumber(-2, 2), 6);
        Check.due("13: more bits than it has", x.putNumber(3, 4), 10);
        Check.dueBits("13: the bits", x, "1 101 10 0011");
        Check.due("13: n = 0", x.putNumber(1, 0), OUTSIDE);
        Check.due("13: n = -1", x.putNumber(1, -1), OUTSIDE);
        Check.due("13: n = 31", x.putNumber(1, 31), OUTSIDE);
        Check.due("13: the greatest n", x.putNumber(1, Integer.MAX_VALUE), OUTSIDE);
        Check.due("13: refused, nothing is put", x.bits(), 10);
        x.clear();
        Check.due("13: thirty bits", x.putNumber(0x6000_0001 | 0x8000_0000, 30), 30);
        Check.dueBits("13: thirty bits", x, "1000000000 0000000000 0000000001");
    }

    private static void takeNumber() {
        PrefixCodes x = new PrefixCodes();
        x.putNumber(0b110100, 6);
        Check.due("14: the first bits", x.takeNumber(2), 3);
        Check.due("14: the next bits", x.takeNumber(3), 2);
        Check.due("14: ENDED", x.takeNumber(2), ENDED);
        Check.due("14: nothing is taken", x.bits(), 1);
        Check.due("14: n = 0", x.takeNumber(0), OUTSIDE);
        Check.due("14: n = 31", x.takeNumber(31), OUTSIDE);
        Check.due("14: n = -5", x.takeNumber(-5), OUTSIDE);
        Check.due("14: all that is left", x.takeNumber(1), 0);
        Check.due("14: of none", x.takeNumber(1), ENDED);
        x.putNumber(-1, 30);
        Check.due("14: thirty bits", x.takeNumber(30), (1 << 30) - 1);
    }

    private static PrefixCodes filled(int bits) {
        PrefixCodes x = new PrefixCodes();
        // Packed lengths fill the stream in few calls.
        x.code(64);
        while (x.bits() + 256 <= bits) {
            x.pack(0, 0);
        }
        while (x.bits() < bits) {
            x.putNumber(0, Math.min(30, bits - x.bits()));
        }
        return x;
    }

    private static void fullStream() {
        PrefixCodes x = filled(19999);
        Check.due("13: two bits more than there is room", x.putNumber(3, 2), ROOM);
        Check.due("13: nothing is put", x.bits(), 19999);
        Check.due("13: OUTSIDE goes before ROOM", x.putNumber(0, 31), OUTSIDE);
        Check.due("13: the last bit", x.putNumber(1, 1), 20000);
        Check.due("13: it is full", x.putNumber(1, 1), ROOM);
        Check.due("11: the last bit", x.bit(19999), 1);
        Check.due("11: the one before", x.bit(19998), 0);
        Check.dueOutOfBounds("11: bit(20000)", () -> x.bit(20000));
        x.takeNumber(1);
        Check.due("13: there is room again", x.putNumber(1, 1), 20000);
        Check.due("12: all of them", x.clear(), 20000);
    }

    private static void ringOfBits() {
        PrefixCodes x = filled(20000);
        for (int i = 0; i < 100; i++) {
            Check.due("14: taken 0s", x.takeNumber(29), 0);
            Check.due("13: put behind", x.putNumber(i * 5368709 + 1, 29), 20000);
        }
        Check.due("11: the first bit put behind", x.bit(20000 - 2900), 0);
        Check.due("11: the last bit of the first", x.bit(20000 - 2900 + 28), 1);
        PrefixCodes y = filled(19990);
        for (int i = 0; i < 20; i++) {
            y.takeNumber(30);
        }
        y.putNumber(0x2AAAAAAA, 30);
        y.putNumber(0x155, 9);
        for (int i = 0; i < 9; i++) {
            Check.due("11: beyond the ring's end, bit " + i, y.bit(y.bits() - 9 + i), 1 - i % 2);
        }
    }

    private static void put() {
        PrefixCodes x = new PrefixCodes();
        int code = Check.codeOf(x, 2, 1, 3, 3, 0);
        Check.due("15: a word", x.put(code, 2, false), 3);
        Check.due("15: a word back", x.put(code, 2, true), 6);
        Check.due("15: a word of one bit", x.put(code, 1, true), 7);
        Check.due("15: a word of two bits back", x.put(code, 0, true), 9);
        Check.dueBits("15: the bits", x, "110 011 0 01");
        Check.due("15: no word", x.put(code, 4, false), STATE);
        Check.due("15: no such symbol", x.put(code, 5, false), UNKNOWN);
        Check.due("15: symbol -1", x.put(code, -1, true), UNKNOWN);
        Check.due("15: no such code", x.put(1, 0, false), UNKNOWN);
        Check.due("15: code -1", x.put(-1, 0, false), UNKNOWN);
        x.length(code, 4, 1);
        Check.due("15: OVER", x.put(code, 0, false), STATE);
        Check.due("15: refused, nothing is put", x.bits(), 9);
    }

    private static void putWithoutRoom() {
        PrefixCodes x = filled(19997);
        int code = Check.codeOf(x, 4, 3, 0);
        Check.due("15: one bit more than there is room", x.put(code, 0, false), ROOM);
        Check.due("15: STATE goes before ROOM", x.put(code, 2, false), STATE);
        Check.due("15: nothing is put", x.bits(), 19997);
        Check.due("15: just the room", x.put(code, 1, true), 20000);
        Check.due("15: it is full", x.put(code, 1, false), ROOM);
    }

    private static void take() {
        PrefixCodes x = new PrefixCodes();
        int code = Check.codeOf(x, 3, 1, 0, 3, 2);
        Check.putBits(x, "111 0 110 10 1");
        int[] symbols = {3, 1, 0, 4};
        int[] left = {7, 6, 3, 1};
        for (int i = 0; i < 4; i++) {
            Check.due("16: word " + i, x.take(code, false), symbols[i]);
            Check.due("16: bits behind word " + i, x.bits(), left[i]);
        }
    }

    private static void takeBack() {
        PrefixCodes x = new PrefixCodes();
        int code = Check.codeOf(x, 3, 1, 0, 3, 2);
        Check.putBits(x, "1 01 011 0 111");
        int[] symbols = {3, 1, 0, 4};
        int[] left = {7, 6, 3, 1};
        for (int i = 0; i < 4; i++) {
            Check.due("16: back, word " + i, x.take(code, true), symbols[i]);
            Check.due("16: back, bits behind word " + i, x.bits(), left[i]);
        }
        x.clear();
        for (int symbol : new int[] {0, 1, 3, 4}) {
            x.put(code, symbol, true);
        }
        for (int symbol : new int[] {4, 3, 1, 0}) {
            Check.due("16: put back and taken back", x.take(code, true), symbol);
        }
        Check.putBits(x, "10 0111");
        Check.due("16: from the beginning", x.take(code, false), 4);
        Check.due("16: from the end", x.take(code, true), 3);
        Check.dueBits("16: what is between", x, "0");
    }

    private static void takeEnded() {
        PrefixCodes x = new PrefixCodes();
        int code = Check.codeOf(x, 3, 1, 0, 3, 2);
        Check.due("16: of no bits", x.take(code, false), ENDED);
        Check.due("16: of no bits, back", x.take(code, true), ENDED);
        Check.putBits(x, "11");
        Check.due("16: within a word", x.take(code, false), ENDED);
        Check.due("16: all are taken", x.bits(), 0);
        Check.putBits(x, "11");
        Check.due("16: within a word, back", x.take(code, true), ENDED);
        Check.due("16: all are taken, back", x.bits(), 0);
    }

    private static void takeBad() {
        PrefixCodes x = new PrefixCodes();
        int holes = Check.codeOf(x, 2, 3, 3);
        Check.putBits(x, "1 0101");
        Check.due("16: no word begins with 1", x.take(holes, false), BAD);
        Check.due("16: just the 1 is taken", x.bits(), 4);
        Check.due("16: a word behind it", x.take(holes, false), 1);
        x.clear();
        int ladder = Check.codeOf(x, 1, 2, 4);
        Check.putBits(x, "1101 0");
        Check.due("16: 1101 is no word", x.take(ladder, false), BAD);
        Check.dueBits("16: up to the first bit with which none begins", x, "0");
        x.clear();
        Check.putBits(x, "0011");
        Check.due("16: 1100 from the end", x.take(ladder, true), 2);
        x.clear();
        Check.putBits(x, "00 111");
        Check.due("16: back, 111 is no beginning", x.take(ladder, true), BAD);
        Check.dueBits("16: back, those are taken", x, "00");
        int single = Check.codeOf(x, 0, 1);
        x.clear();
        Check.putBits(x, "01");
        Check.due("16: SINGLE", x.take(single, false), 1);
        Check.due("16: SINGLE, a 1", x.take(single, false), BAD);
        Check.due("16: the 1 is taken", x.bits(), 0);
        int longer = Check.codeOf(x, 0, 2);
        Check.putBits(x, "0100");
        Check.due("16: one word of two bits, 01", x.take(longer, false), BAD);
        Check.due("16: one word of two bits, 00", x.take(longer, false), 1);
    }

    private static void takeRefused() {
        PrefixCodes x = new PrefixCodes();
        int none = x.code(2);
        int over = Check.codeOf(x, 1, 1, 1);
        Check.putBits(x, "0101");
        Check.due("16: NONE", x.take(none, false), STATE);
        Check.due("16: OVER", x.take(over, true), STATE);
        Check.due("16: no such code", x.take(2, false), UNKNOWN);
        Check.due("16: code -1", x.take(-1, true), UNKNOWN);
        Check.due("16: refused, nothing is taken", x.bits(), 4);
        x.clear();
        Check.due("16: STATE goes before ENDED", x.take(none, false), STATE);
    }

    private static void takeLongWords() {
        PrefixCodes x = new PrefixCodes();
        int[] ladder = new int[16];
        for (int symbol = 0; symbol < 15; symbol++) {
            ladder[symbol] = symbol + 1;
        }
        int holes = Check.codeOf(x, ladder);
        ladder[15] = 15;
        int full = Check.codeOf(x, ladder);
        for (int symbol = 15; symbol >= 0; symbol--) {
            x.put(full, symbol, false);
        }
        for (int symbol = 15; symbol >= 0; symbol--) {
            Check.due("16: a word of the ladder", x.take(full, false), symbol);
        }
        for (int symbol = 0; symbol < 16; symbol++) {
            x.put(full, symbol, true);
        }
        for (int symbol = 15; symbol >= 0; symbol--) {
            Check.due("16: a word of the ladder, back", x.take(full, true), symbol);
        }
        x.putNumber(-1, 15);
        Check.due("16: fifteen 1s are no word", x.take(holes, false), BAD);
        Check.due("16: fifteen are taken", x.bits(), 0);
        x.putNumber(-1, 14);
        Check.due("16: fourteen 1s are within one", x.take(holes, true), ENDED);
    }
}
