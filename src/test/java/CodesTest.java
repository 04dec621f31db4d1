/** Promises 1 to 9: a new object, code, length, about, word, count, countText, least, cost. */
public final class CodesTest {
    private static final int UNKNOWN = PrefixCodes.UNKNOWN;
    private static final int OUTSIDE = PrefixCodes.OUTSIDE;
    private static final int STATE = PrefixCodes.STATE;
    private static final int ROOM = PrefixCodes.ROOM;

    public static void main(String[] args) {
        newObject();
        code();
        length();
        about();
        aboutAtTheEdges();
        word();
        wordOfHoles();
        count();
        countText();
        least();
        leastByTies();
        leastWithFewSymbols();
        leastRefused();
        leastOfGreatCounts();
        cost();
        Check.end();
    }

    private static void newObject() {
        PrefixCodes x = new PrefixCodes();
        Check.due("1: no code", x.about(0, 0), UNKNOWN);
        for (int symbol = 0; symbol < 64; symbol++) {
            Check.due("1: count " + symbol, x.count(symbol, 0), 0);
        }
        Check.due("1: bits", x.bits(), 0);
        Check.dueOutOfBounds("1: bit(0)", () -> x.bit(0));
        Check.dueOutOfBounds("1: entry(0, 0)", () -> x.entry(0, 0));
        Check.dueOutOfBounds("1: symbol(0)", () -> x.symbol(0));
        Check.due("1: group(0)", x.group(0), STATE);
        Check.due("1: write()", x.write(), STATE);
        Check.due("1: choose", x.choose(1, 1, 1, 0), STATE);
        Check.due("1: takeNumber(1)", x.takeNumber(1), PrefixCodes.ENDED);
        Check.due("1: clear()", x.clear(), 0);
        Check.due("1: forget()", x.forget(), 0);
        Check.due("1: countText()", x.countText(), 0);
        Check.due("1: code(1)", x.code(1), 0);
        PrefixCodes other = new PrefixCodes();
        Check.due("1: another object has no code", other.about(0, 0), UNKNOWN);
    }

    private static void code() {
        PrefixCodes x = new PrefixCodes();
        for (int wrong : new int[] {0, -1, 65, Integer.MIN_VALUE, Integer.MAX_VALUE}) {
            Check.due("2: code(" + wrong + ")", x.code(wrong), OUTSIDE);
        }
        Check.due("2: code(1)", x.code(1), 0);
        Check.due("2: code(64)", x.code(64), 1);
        Check.due("2: symbols of 0", x.about(0, 1), 1);
        Check.due("2: symbols of 1", x.about(1, 1), 64);
        for (int symbol = 0; symbol < 64; symbol++) {
            Check.due("2: length of " + symbol, x.length(1, symbol, 0), 0);
        }
        for (int number = 2; number < 12; number++) {
            Check.due("2: code " + number, x.code(2), number);
        }
        Check.due("2: a thirteenth code", x.code(2), ROOM);
        Check.due("2: OUTSIDE goes before ROOM", x.code(0), OUTSIDE);
        Check.due("2: none is made", x.about(12, 0), UNKNOWN);
    }

    private static void length() {
        PrefixCodes x = new PrefixCodes();
        x.code(3);
        Check.due("3: at first", x.length(0, 2, 15), 0);
        Check.due("3: what it had", x.length(0, 2, 7), 15);
        Check.due("3: too long", x.length(0, 2, 16), OUTSIDE);
        Check.due("3: below 0", x.length(0, 2, -1), OUTSIDE);
        Check.due("3: refused, it stays", x.length(0, 2, 0), 7);
        Check.due("3: taken off", x.length(0, 2, 0), 0);
        Check.due("3: no such symbol", x.length(0, 3, 1), UNKNOWN);
        Check.due("3: symbol -1", x.length(0, -1, 1), UNKNOWN);
        Check.due("3: no such code", x.length(1, 0, 1), UNKNOWN);
        Check.due("3: code -1", x.length(-1, 0, 1), UNKNOWN);
        Check.due("3: UNKNOWN goes before OUTSIDE", x.length(0, 3, 16), UNKNOWN);
        Check.due("3: the greatest numbers", x.length(Integer.MAX_VALUE, Integer.MAX_VALUE, 0), UNKNOWN);
        Check.due("3: the least numbers", x.length(Integer.MIN_VALUE, Integer.MIN_VALUE, 0), UNKNOWN);
        x.code(3);
        x.length(1, 0, 4);
        Check.due("3: codes are apart", x.length(0, 0, 0), 0);
    }

    private static void dueAbout(String what, PrefixCodes x, int code, int... answers) {
        for (int i = 0; i < answers.length; i++) {
            Check.due("4: " + what + ", " + i, x.about(code, i), answers[i]);
        }
    }

    private static void about() {
        PrefixCodes x = new PrefixCodes();
        dueAbout("NONE", x, Check.codeOf(x, 0, 0, 0), 0, 3, 0, 0, 0);
        dueAbout("SINGLE", x, Check.codeOf(x, 0, 1, 0), 1, 3, 16384, 1, 1);
        dueAbout("one word of two bits", x, Check.codeOf(x, 0, 2), 3, 2, 8192, 1, 2);
        dueAbout("two words of one bit", x, Check.codeOf(x, 1, 1), 2, 2, 32768, 2, 1);
        dueAbout("FULL", x, Check.codeOf(x, 3, 1, 0, 3, 2), 2, 5, 32768, 4, 3);
        dueAbout("HOLES", x, Check.codeOf(x, 3, 1, 0, 3), 3, 4, 24576, 3, 3);
        dueAbout("OVER", x, Check.codeOf(x, 1, 1, 15), 4, 3, 32769, 3, 15);
        dueAbout("HOLES of one bit and the least", x, Check.codeOf(x, 1, 15), 3, 2, 16385, 2, 15);
        Check.due("4: what = -1", x.about(0, -1), OUTSIDE);
        Check.due("4: what = 5", x.about(0, 5), OUTSIDE);
        Check.due("4: no such code", x.about(8, 0), UNKNOWN);
        Check.due("4: code -1", x.about(-1, 0), UNKNOWN);
        Check.due("4: UNKNOWN goes before OUTSIDE", x.about(8, 5), UNKNOWN);
        x.length(6, 2, 0);
        Check.due("4: judged anew", x.about(6, 0), 2);
        Check.due("4: the greatest length anew", x.about(6, 4), 1);
    }

    private static void aboutAtTheEdges() {
        PrefixCodes x = new PrefixCodes();
        int[] ladder = new int[16];
        for (int symbol = 0; symbol < 15; symbol++) {
            ladder[symbol] = symbol + 1;
        }
        ladder[15] = 15;
        dueAbout("FULL with all lengths", x, Check.codeOf(x, ladder), 2, 16, 32768, 16, 15);
        ladder[15] = 0;
        dueAbout("one word of 15 bits is free", x, Check.codeOf(x, ladder), 3, 16, 32767, 15, 15);
        int[] ones = new int[64];
        java.util.Arrays.fill(ones, 1);
        dueAbout("the most OVER", x, Check.codeOf(x, ones), 4, 64, 64 * 16384, 64, 1);
        int[] sixes = new int[64];
        java.util.Arrays.fill(sixes, 6);
        dueAbout("FULL of 64", x, Check.codeOf(x, sixes), 2, 64, 32768, 64, 6);
    }

    private static void word() {
        PrefixCodes x = new PrefixCodes();
        int code = Check.codeOf(x, 3, 2, 0, 3, 1);
        int[] words = {6, 2, STATE, 7, 0};
        int[] turned = {3, 1, STATE, 7, 0};
        for (int symbol = 0; symbol < 5; symbol++) {
            Check.due("5: word of " + symbol, x.word(code, symbol, false), words[symbol]);
            Check.due("5: turned word of " + symbol, x.word(code, symbol, true), turned[symbol]);
        }
        Check.due("5: no such symbol", x.word(code, 5, false), UNKNOWN);
        Check.due("5: symbol -1", x.word(code, -1, true), UNKNOWN);
        Check.due("5: no such code", x.word(1, 0, false), UNKNOWN);
        Check.due("5: code -1", x.word(-1, 0, true), UNKNOWN);
        x.length(code, 2, 15);
        Check.due("5: OVER", x.word(code, 0, false), STATE);
        Check.due("5: OVER, turned", x.word(code, 4, true), STATE);
        Check.due("5: UNKNOWN goes before STATE", x.word(code, 5, false), UNKNOWN);
        x.length(code, 0, 0);
        Check.due("5: it is not OVER any more", x.word(code, 3, false), 6);
        Check.due("5: a long word", x.word(code, 2, false), 0x7000);
        Check.due("5: a long word turned", x.word(code, 2, true), 7);
    }

    private static void wordOfHoles() {
        PrefixCodes x = new PrefixCodes();
        int code = Check.codeOf(x, 5, 3, 15, 3);
        Check.due("5: the first is all 0s", x.word(code, 1, false), 0);
        Check.due("5: the next of the same length", x.word(code, 3, false), 1);
        Check.due("5: a longer one, 2 more bits", x.word(code, 0, false), 8);
        Check.due("5: a longer one, 10 more bits", x.word(code, 2, false), 9 << 10);
        Check.due("5: that turned", x.word(code, 2, true), 18);
    }

    private static void count() {
        PrefixCodes x = new PrefixCodes();
        Check.due("6: at first", x.count(63, 1000000), 0);
        Check.due("6: what it had", x.count(63, 5), 1000000);
        Check.due("6: too much", x.count(63, 1000001), OUTSIDE);
        Check.due("6: below 0", x.count(63, -1), OUTSIDE);
        Check.due("6: refused, it stays", x.count(63, 0), 5);
        Check.due("6: no such symbol", x.count(64, 0), OUTSIDE);
        Check.due("6: symbol -1", x.count(-1, 0), OUTSIDE);
        Check.due("6: the least number", x.count(Integer.MIN_VALUE, 0), OUTSIDE);
        Check.due("6: another symbol", x.count(0, 1), 0);
    }

    private static void countText() {
        PrefixCodes x = new PrefixCodes();
        Check.counts(x, 9, 9, 9);
        Check.addText(x, 0, 63, 63, 5, 63, 0);
        Check.due("7: symbols that come", x.countText(), 3);
        Check.due("7: count of 0", x.count(0, 0), 2);
        Check.due("7: count of 1", x.count(1, 0), 0);
        Check.due("7: count of 2", x.count(2, 0), 0);
        Check.due("7: count of 5", x.count(5, 0), 1);
        Check.due("7: count of 63", x.count(63, 0), 3);
        x.count(7, 4);
        x.forget();
        Check.due("7: of no text", x.countText(), 0);
        Check.due("7: a count before", x.count(7, 0), 0);
    }

    private static void least() {
        PrefixCodes x = new PrefixCodes();
        Check.counts(x, 1, 1, 2, 4, 8);
        Check.due("8: least(5, 15)", x.least(5, 15), 0);
        Check.due("8: least(5, 3)", x.least(5, 3), 1);
        Check.due("8: least(3, 2)", x.least(3, 2), 2);
        Check.due("8: least(64, 4)", x.least(64, 4), 3);
        Check.dueLengths("8: no limit that is felt", x, 0, 4, 4, 3, 2, 1);
        Check.dueLengths("8: limit 3", x, 1, 3, 3, 3, 3, 1);
        Check.dueLengths("8: symbols behind do not count", x, 2, 2, 2, 1);
        int[] all = new int[64];
        System.arraycopy(new int[] {4, 4, 3, 2, 1}, 0, all, 0, 5);
        Check.dueLengths("8: symbols without a count", x, 3, all);
        Check.due("8: counts stay", x.count(4, 8), 8);
    }

    /** With pairs ahead of symbols these would be 3 3 2 1, by numbers from the greatest 1 2 2. */
    private static void leastByTies() {
        PrefixCodes x = new PrefixCodes();
        Check.counts(x, 1, 1, 2, 2);
        Check.dueLengths("8: symbols ahead of pairs", x, x.least(4, 15), 2, 2, 2, 2);
        Check.counts(x, 5, 5, 5, 0);
        Check.dueLengths("8: the same count by number", x, x.least(3, 15), 2, 2, 1);
        Check.counts(x, 4, 1, 2, 1);
        Check.dueLengths("8: by count, not by number", x, x.least(4, 15), 1, 3, 2, 3);
        Check.counts(x, 1, 1, 1, 1, 1);
        Check.dueLengths("8: the least limit of five", x, x.least(5, 3), 3, 3, 2, 2, 2);
    }

    private static void leastWithFewSymbols() {
        PrefixCodes x = new PrefixCodes();
        Check.dueLengths("8: without any", x, x.least(3, 1), 0, 0, 0);
        x.count(2, 7);
        Check.dueLengths("8: one alone", x, x.least(3, 15), 0, 0, 1);
        Check.dueLengths("8: one symbol, not counted", x, x.least(1, 1), 0);
        x.count(0, 1000000);
        Check.dueLengths("8: two, limit 1", x, x.least(3, 1), 1, 0, 1);
        Check.dueLengths("8: two, limit 15", x, x.least(3, 15), 1, 0, 1);
    }

    private static void leastRefused() {
        PrefixCodes x = new PrefixCodes();
        Check.counts(x, 1, 1, 1, 1, 1);
        Check.due("8: symbols 0", x.least(0, 1), OUTSIDE);
        Check.due("8: symbols 65", x.least(65, 1), OUTSIDE);
        Check.due("8: limit 0", x.least(1, 0), OUTSIDE);
        Check.due("8: limit 16", x.least(1, 16), OUTSIDE);
        Check.due("8: OUTSIDE goes before STATE", x.least(64, -31), OUTSIDE);
        Check.due("8: five, limit 2", x.least(5, 2), STATE);
        Check.due("8: three, limit 1", x.least(3, 1), STATE);
        Check.due("8: four, limit 2", x.least(4, 2), 0);
        Check.dueLengths("8: as many as 2^limit", x, 0, 2, 2, 2, 2);
        for (int number = 1; number < 12; number++) {
            Check.due("8: code " + number, x.least(2, 1), number);
        }
        Check.due("8: a thirteenth code", x.least(2, 1), ROOM);
        Check.due("8: STATE goes before ROOM", x.least(5, 2), STATE);
        Check.due("8: OUTSIDE goes before ROOM", x.least(5, 0), OUTSIDE);
    }

    /** Weights of pairs go beyond an int here. */
    private static void leastOfGreatCounts() {
        PrefixCodes x = new PrefixCodes();
        for (int symbol = 0; symbol < 64; symbol++) {
            x.count(symbol, 1000000 - symbol);
        }
        int code = x.least(64, 15);
        Check.due("8: 64 great counts are FULL", x.about(code, 0), 2);
        for (int symbol = 0; symbol < 64; symbol++) {
            Check.due("8: great counts, length of " + symbol, x.length(code, symbol, 6), 6);
        }
        int doubling = 1;
        for (int symbol = 0; symbol < 64; symbol++) {
            x.count(symbol, doubling);
            doubling = Math.min(1000000, doubling * 2);
        }
        int limited = x.least(20, 15);
        Check.due("8: the limit is reached", x.about(limited, 4), 15);
        Check.due("8: doubling counts are FULL", x.about(limited, 0), 2);
    }

    private static void cost() {
        PrefixCodes x = new PrefixCodes();
        int code = Check.codeOf(x, 2, 0, 15, 1);
        Check.due("9: without counts", x.cost(code), 0);
        Check.counts(x, 10, 1000, 1000000, 3, 77);
        Check.due("9: the cost", x.cost(code), 20 + 15000000 + 3);
        x.length(code, 1, 1);
        Check.due("9: by the lengths as they are", x.cost(code), 20 + 1000 + 15000000 + 3);
        x.count(1, 0);
        Check.due("9: by the counts as they are", x.cost(code), 20 + 15000000 + 3);
        Check.due("9: no such code", x.cost(1), UNKNOWN);
        Check.due("9: code -1", x.cost(-1), UNKNOWN);
        int[] longest = new int[64];
        java.util.Arrays.fill(longest, 15);
        PrefixCodes y = new PrefixCodes();
        int most = Check.codeOf(y, longest);
        for (int symbol = 0; symbol < 64; symbol++) {
            y.count(symbol, 1000000);
        }
        Check.due("9: the greatest cost", y.cost(most), 960000000L);
        x.length(code, 1, 1);
        x.length(code, 0, 1);
        Check.due("9: an OVER code has a cost too", x.cost(code), 10 + 15000000 + 3);
    }
}
