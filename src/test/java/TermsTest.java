import java.util.Arrays;

/**
 * The edges that "Terms" names for codes: how many there are, the kinds, words, counts, cost and
 * PACKAGES; and for tables: NOTHING, SYMBOL and LINK.
 */
public final class TermsTest {
    private static final int UNKNOWN = PrefixCodes.UNKNOWN;
    private static final int STATE = PrefixCodes.STATE;
    private static final int ROOM = PrefixCodes.ROOM;
    private static final int NONE = 0, SINGLE = 1, FULL = 2, HOLES = 3, OVER = 4;
    private static final int NOTHING = 0, SYMBOL = 1, LINK = 2;

    public static void main(String[] args) {
        numbersOfCodes();
        refusedMakesNoNumber();
        filled();
        kindsOfOneLength();
        kindsOfAllSmallCodes();
        kindsByTheLeast();
        firstAndLastWords();
        wordsOfLongerOnes();
        turnedWords();
        wordsOf64();
        countsAtFirst();
        countsOfTexts();
        costOfFew();
        packagesWithoutAny();
        packagesOfOneAlone();
        packagesOfTwo();
        packagesWithOneLeftOver();
        packagesUnderEachLimit();
        packagesOfTheGreatestLength();
        packagesOfLeastCost();
        tableOfNoWords();
        tableOfOneWord();
        tableAtTheRoot();
        tableOfTheLongestParts();
        tableWithPartsInOrder();
        tableThatStays();
        the512thCall();
        Check.end();
    }

    private static int[] same(int many, int length) {
        int[] lengths = new int[many];
        Arrays.fill(lengths, length);
        return lengths;
    }

    private static int[] with(int many, int symbol, int length) {
        int[] lengths = new int[many];
        lengths[symbol] = length;
        return lengths;
    }

    private static int[] ladder(int last) {
        int[] lengths = new int[16];
        for (int symbol = 0; symbol < 15; symbol++) {
            lengths[symbol] = symbol + 1;
        }
        lengths[15] = last;
        return lengths;
    }

    // ---- codes

    /** CODES are numbered 0, 1, .. as they are made (12 at most), by whatever call. */
    private static void numbersOfCodes() {
        PrefixCodes x = new PrefixCodes();
        x.add(1, 2, 3, -1, -1);
        x.putNumber(0, 30);
        Check.due("2: the first", x.code(1), 0);
        Check.due("8: the next", x.least(2, 1), 1);
        Check.due("18: the next", x.unpack(3, 0), 2);
        Check.due("23: the first of the next six", x.choose(6, 1, 15, 1), 3);
        Check.due("2: behind six", x.code(4), 9);
        Check.due("23: the next", x.choose(1, 1, 15, 1), 10);
        Check.due("8: the twelfth", x.least(64, 15), 11);
        int[] symbols = {1, 2, 3, 64, 64, 64, 64, 64, 64, 4, 64, 64, UNKNOWN};
        for (int code = 0; code <= 12; code++) {
            Check.due("2: symbols of code " + code, x.about(code, 1), symbols[code]);
        }
        PrefixCodes y = new PrefixCodes();
        y.add(1, 2, 3, -1, -1);
        Check.due("23: six", y.choose(6, 1, 15, 8), 0);
        Check.due("23: six more", y.choose(6, 1, 15, 8), 6);
        Check.due("23: one more", y.choose(1, 1, 15, 8), ROOM);
    }

    private static void refusedMakesNoNumber() {
        PrefixCodes x = new PrefixCodes();
        x.code(0);
        x.least(1, 0);
        x.unpack(1, 0);
        x.choose(1, 1, 1, 0);
        Check.due("2: none was made", x.about(0, 1), UNKNOWN);
        Check.due("2: the first number is still free", x.code(1), 0);
    }

    /** FILLED is the sum of 2^(15 - length) over the symbols that have one. */
    private static void filled() {
        int[] of = {0, 16384, 8192, 4096, 2048, 1024, 512, 256, 128, 64, 32, 16, 8, 4, 2, 1};
        for (int length = 0; length <= 15; length++) {
            PrefixCodes x = new PrefixCodes();
            Check.due("4: FILLED by one of " + length, x.about(Check.codeOf(x, with(3, 1, length)), 2), of[length]);
            Check.due("4: FILLED by 64 of " + length, x.about(Check.codeOf(x, same(64, length)), 2), 64 * of[length]);
        }
    }

    private static void dueKind(String what, int kind, int... lengths) {
        PrefixCodes x = new PrefixCodes();
        Check.due("4: " + what, x.about(Check.codeOf(x, lengths), 0), kind);
    }

    private static void kindsOfOneLength() {
        for (int symbols : new int[] {1, 64}) {
            dueKind("no symbol of " + symbols + " has a word", NONE, new int[symbols]);
            dueKind("the first of " + symbols + ", of length 1", SINGLE, with(symbols, 0, 1));
            dueKind("the last of " + symbols + ", of length 1", SINGLE, with(symbols, symbols - 1, 1));
            dueKind("the last of " + symbols + ", of length 2", HOLES, with(symbols, symbols - 1, 2));
            dueKind("the last of " + symbols + ", of length 15", HOLES, with(symbols, symbols - 1, 15));
        }
        for (int length = 1; length <= 6; length++) {
            int all = 1 << length;
            dueKind("all words of " + length, FULL, same(all, length));
            dueKind("one fewer than all words of " + length, length == 1 ? SINGLE : HOLES, same(all - 1, length));
            if (all < 64) {
                dueKind("one more than all words of " + length, OVER, same(all + 1, length));
            }
        }
        dueKind("64 of 7 are half", HOLES, same(64, 7));
        dueKind("64 of 1", OVER, same(64, 1));
    }

    /** Every code of three symbols, by what the kinds say. */
    private static void kindsOfAllSmallCodes() {
        for (int all = 0; all < 16 * 16 * 16; all++) {
            int[] lengths = {all & 15, all >> 4 & 15, all >> 8};
            int having = 0;
            int sum = 0;
            for (int length : lengths) {
                having += length > 0 ? 1 : 0;
                sum += length > 0 ? 1 << 15 - length : 0;
            }
            int less = having == 1 && sum == 1 << 14 ? SINGLE : HOLES;
            int kind = having == 0 ? NONE : sum == 1 << 15 ? FULL : sum > 1 << 15 ? OVER : less;
            dueKind(Arrays.toString(lengths), kind, lengths);
        }
    }

    private static void kindsByTheLeast() {
        dueKind("all is filled", FULL, ladder(15));
        dueKind("one of the least is left", HOLES, ladder(0));
        PrefixCodes x = new PrefixCodes();
        int code = Check.codeOf(x, Arrays.copyOf(ladder(15), 17));
        Check.due("4: FULL", x.about(code, 2), 32768);
        x.length(code, 16, 15);
        Check.due("4: one of the least too many", x.about(code, 0), OVER);
        Check.due("4: one of the least too many", x.about(code, 2), 32769);
        Check.due("5: OVER has no words", x.word(code, 0, false), STATE);
        x.length(code, 0, 0);
        Check.due("4: OVER no more", x.about(code, 0), HOLES);
        Check.due("5: it has words again", x.word(code, 1, false), 0);
        for (int symbol = 1; symbol < 17; symbol++) {
            x.length(code, symbol, 0);
        }
        Check.due("4: NONE again", x.about(code, 0), NONE);
        Check.due("4: how many have a word", x.about(code, 3), 0);
        Check.due("4: the greatest length", x.about(code, 4), 0);
    }

    // ---- words

    private static void firstAndLastWords() {
        for (int length = 1; length <= 15; length++) {
            PrefixCodes x = new PrefixCodes();
            int code = Check.codeOf(x, 0, length, 0);
            Check.due("5: the only word is all 0s", x.word(code, 1, false), 0);
            Check.due("5: the only word is all 0s", x.put(code, 1, false), length);
            Check.dueBits("5: so many of them", x, "0".repeat(length));
        }
        PrefixCodes x = new PrefixCodes();
        int code = Check.codeOf(x, ladder(15));
        for (int symbol = 0; symbol < 15; symbol++) {
            Check.due("5: 1s and a 0", x.word(code, symbol, false), (1 << symbol + 1) - 2);
        }
        Check.due("5: the last of FULL is all 1s", x.word(code, 15, false), 32767);
    }

    /** The one before and 1, with as many 0s behind as it is longer. */
    private static void wordsOfLongerOnes() {
        for (int length = 2; length <= 15; length++) {
            PrefixCodes x = new PrefixCodes();
            int code = Check.codeOf(x, length, 1, length);
            Check.due("5: a 1 and 0s", x.word(code, 0, false), 1 << length - 1);
            Check.due("5: and 1", x.word(code, 2, false), (1 << length - 1) + 1);
        }
        PrefixCodes x = new PrefixCodes();
        int code = Check.codeOf(x, 15, 14, 13, 12);
        Check.due("5: of 12", x.word(code, 3, false), 0);
        Check.due("5: of 13", x.word(code, 2, false), 2);
        Check.due("5: of 14", x.word(code, 1, false), 6);
        Check.due("5: of 15", x.word(code, 0, false), 14);
    }

    private static void turnedWords() {
        PrefixCodes x = new PrefixCodes();
        int code = Check.codeOf(x, 1, 15, 15);
        Check.due("5: 0", x.word(code, 0, true), 0);
        Check.due("5: a 1 and fourteen 0s", x.word(code, 1, true), 1);
        Check.due("5: a 1, thirteen 0s and a 1", x.word(code, 2, true), 16385);
        int zeros = Check.codeOf(x, 15, 15);
        Check.due("5: fifteen 0s", x.word(zeros, 0, true), 0);
        Check.due("5: fourteen 0s and a 1", x.word(zeros, 1, true), 16384);
        int full = Check.codeOf(x, ladder(15));
        Check.due("5: fifteen 1s", x.word(full, 15, true), 32767);
        Check.due("5: fourteen 1s and a 0", x.word(full, 14, true), 16383);
    }

    /** Of the same length by number. */
    private static void wordsOf64() {
        PrefixCodes x = new PrefixCodes();
        int code = Check.codeOf(x, same(64, 6));
        for (int symbol = 0; symbol < 64; symbol++) {
            Check.due("5: of the same length by number", x.word(code, symbol, false), symbol);
        }
        PrefixCodes y = new PrefixCodes();
        int falling = Check.codeOf(y, 4, 4, 3, 3, 2, 2);
        int[] words = {12, 13, 4, 5, 0, 1};
        for (int symbol = 0; symbol < 6; symbol++) {
            Check.due("5: in order of length", y.word(falling, symbol, false), words[symbol]);
        }
    }

    // ---- counts and cost

    private static void countsAtFirst() {
        PrefixCodes x = new PrefixCodes();
        for (int symbol = 0; symbol < 64; symbol++) {
            Check.due("6: at first", x.count(symbol, 1000000), 0);
        }
        for (int symbol = 0; symbol < 64; symbol++) {
            Check.due("6: the most of all", x.count(symbol, 0), 1000000);
        }
        for (int symbol = 0; symbol < 64; symbol++) {
            Check.due("6: 0 again", x.count(symbol, 0), 0);
        }
    }

    /** Of no text, of one symbol, of all symbols, of the longest text of one symbol. */
    private static void countsOfTexts() {
        PrefixCodes none = new PrefixCodes();
        Check.counts(none, 1, 2, 3);
        Check.due("7: no text", none.countText(), 0);
        for (int symbol = 0; symbol < 64; symbol++) {
            Check.due("7: no text, count of " + symbol, none.count(symbol, 0), 0);
        }
        PrefixCodes one = new PrefixCodes();
        for (int i = 0; i < 200; i++) {
            one.add(63, 63, 63, 63, 63);
        }
        Check.due("7: one symbol a thousand times", one.countText(), 1);
        Check.due("7: a thousand", one.count(63, 0), 1000);
        Check.due("7: the others", one.count(62, 0), 0);
        PrefixCodes all = new PrefixCodes();
        for (int symbol = 0; symbol < 64; symbol++) {
            all.add(symbol, symbol, -1, -1, -1);
        }
        Check.due("7: all 64 symbols", all.countText(), 64);
        Check.due("7: the first, twice", all.count(0, 0), 2);
        Check.due("7: the last, twice", all.count(63, 0), 2);
    }

    private static void costOfFew() {
        PrefixCodes x = new PrefixCodes();
        for (int symbol = 0; symbol < 64; symbol++) {
            x.count(symbol, 1000000);
        }
        Check.due("9: no symbol has a word", x.cost(x.code(64)), 0);
        Check.due("9: one symbol of one", x.cost(Check.codeOf(x, 1)), 1000000);
        Check.due("9: the last of 64", x.cost(Check.codeOf(x, with(64, 63, 15))), 15000000);
        Check.due("9: all 64, the longest", x.cost(Check.codeOf(x, same(64, 15))), 960000000L);
        Check.due("9: symbols behind the last do not count", x.cost(Check.codeOf(x, 2, 2)), 4000000);
    }

    // ---- PACKAGES

    private static void packagesWithoutAny() {
        for (int limit : new int[] {1, 15}) {
            PrefixCodes x = new PrefixCodes();
            Check.dueLengths("8: no counts at all", x, x.least(2, limit), 0, 0);
            x.count(2, 9);
            x.count(63, 9);
            Check.dueLengths("8: counts behind the last symbol alone", x, x.least(2, limit), 0, 0);
            Check.due("8: of 64 without any", new PrefixCodes().least(64, limit), 0);
        }
    }

    private static void packagesOfOneAlone() {
        for (int symbol : new int[] {0, 31, 63}) {
            for (int count : new int[] {1, 1000000}) {
                for (int limit : new int[] {1, 2, 15}) {
                    PrefixCodes x = new PrefixCodes();
                    x.count(symbol, count);
                    Check.dueLengths("8: one alone", x, x.least(64, limit), with(64, symbol, 1));
                    Check.dueLengths("8: one alone, the last", x, x.least(symbol + 1, limit),
                            with(symbol + 1, symbol, 1));
                }
            }
        }
    }

    private static void packagesOfTwo() {
        for (int limit = 1; limit <= 15; limit++) {
            PrefixCodes x = new PrefixCodes();
            Check.counts(x, 1000000, 0, 1);
            Check.dueLengths("8: two", x, x.least(3, limit), 1, 0, 1);
        }
    }

    /** If the third were not dropped it would come twice in row 2: the lengths would be 1 1 2. */
    private static void packagesWithOneLeftOver() {
        for (int limit = 2; limit <= 15; limit++) {
            PrefixCodes x = new PrefixCodes();
            Check.counts(x, 1, 1, 1);
            Check.dueLengths("8: one that is left over", x, x.least(3, limit), 2, 2, 1);
            Check.counts(x, 3, 2, 1);
            Check.dueLengths("8: the greatest is left over", x, x.least(3, limit), 1, 2, 2);
        }
        for (int limit = 3; limit <= 15; limit++) {
            PrefixCodes x = new PrefixCodes();
            Check.counts(x, 1, 1, 1, 1, 1);
            // Symbols ahead of pairs of the same weight, pairs in their order.
            Check.dueLengths("8: five alike", x, x.least(5, limit), 3, 3, 2, 2, 2);
        }
    }

    private static void packagesUnderEachLimit() {
        // 1 1 2 4 8 16 want the lengths 5 5 4 3 2 1.
        int[][] lengths = {{3, 3, 3, 3, 2, 2}, {4, 4, 4, 4, 2, 1}, {5, 5, 4, 3, 2, 1}};
        for (int limit = 3; limit <= 15; limit++) {
            PrefixCodes x = new PrefixCodes();
            Check.counts(x, 1, 1, 2, 4, 8, 16);
            Check.dueLengths("8: limit " + limit, x, x.least(6, limit), lengths[Math.min(limit, 5) - 3]);
            if (limit == 3) {
                Check.due("8: limit 2", x.least(6, 2), STATE);
            }
        }
    }

    /** Counts that double want as many bits as there are symbols less one. */
    private static void packagesOfTheGreatestLength() {
        PrefixCodes x = new PrefixCodes();
        x.count(0, 1);
        for (int symbol = 1; symbol < 18; symbol++) {
            x.count(symbol, 1 << symbol - 1);
        }
        int[] just = new int[16];
        for (int symbol = 0; symbol < 16; symbol++) {
            just[symbol] = symbol == 0 ? 15 : 16 - symbol;
        }
        Check.dueLengths("8: just the greatest length", x, x.least(16, 15), just);
        int limited = x.least(17, 15);
        Check.due("8: one more is held by the limit", x.about(limited, 4), 15);
        Check.due("8: and is FULL", x.about(limited, 2), 32768);
        Check.due("8: with all words", x.about(limited, 3), 17);
    }

    /** Of all lengths under a limit that leave each symbol a word none costs less. */
    private static void packagesOfLeastCost() {
        int[] counts = {1, 2, 3, 7, 20};
        for (int many = 2; many <= 5; many++) {
            for (int which = 0; which < Math.pow(5, many); which++) {
                PrefixCodes x = new PrefixCodes();
                int[] weights = new int[many];
                for (int symbol = 0, rest = which; symbol < many; symbol++, rest /= 5) {
                    weights[symbol] = counts[rest % 5];
                    x.count(symbol, weights[symbol]);
                }
                for (int limit = many > 4 ? 3 : 2; limit <= 4; limit++) {
                    int code = x.least(many, limit);
                    Check.due("8: the least cost, " + Arrays.toString(weights) + " under " + limit,
                            x.cost(code), leastCost(weights, 0, limit, 1 << limit));
                    if (x.about(code, 4) > limit || x.about(code, 0) != FULL) {
                        Check.tell("8: " + Arrays.toString(weights) + " under " + limit + " goes beyond, or is not FULL");
                    }
                }
            }
        }
    }

    private static long leastCost(int[] weights, int symbol, int limit, int free) {
        if (symbol == weights.length) {
            return 0;
        }
        long best = 1000000;
        for (int length = 1; length <= limit; length++) {
            int used = 1 << limit - length;
            // Those behind need at least one each.
            if (used + weights.length - symbol - 1 <= free) {
                best = Math.min(best,
                        (long) weights[symbol] * length + leastCost(weights, symbol + 1, limit, free - used));
            }
        }
        return best;
    }

    // ---- tables

    private static void dueEntry(String what, PrefixCodes x, int i, int kind, int which, int size) {
        Check.due("20: " + what + ", entry " + i + ", its kind", x.entry(i, 0), kind);
        Check.due("20: " + what + ", entry " + i + ", which", x.entry(i, 1), which);
        Check.due("20: " + what + ", entry " + i + ", size", x.entry(i, 2), size);
    }

    private static void tableOfNoWords() {
        for (int root = 1; root <= 9; root++) {
            PrefixCodes x = new PrefixCodes();
            int size = 1 << root;
            Check.due("19: NONE", x.table(x.code(64), root), size);
            dueEntry("NONE", x, 0, NOTHING, -1, 0);
            dueEntry("NONE", x, size - 1, NOTHING, -1, 0);
            Check.dueOutOfBounds("20: NONE, behind the last", () -> x.entry(size, 0));
        }
    }

    private static void tableOfOneWord() {
        for (int root = 1; root <= 9; root++) {
            PrefixCodes x = new PrefixCodes();
            int half = 1 << root - 1;
            Check.due("19: SINGLE", x.table(Check.codeOf(x, with(64, 63, 1)), root), 2 * half);
            dueEntry("SINGLE", x, 0, SYMBOL, 63, 1);
            dueEntry("SINGLE", x, half - 1, SYMBOL, 63, 1);
            dueEntry("SINGLE", x, half, NOTHING, -1, 0);
            dueEntry("SINGLE", x, 2 * half - 1, NOTHING, -1, 0);
        }
    }

    /** A word of just the root's bits is a SYMBOL; with one bit more it is behind a LINK. */
    private static void tableAtTheRoot() {
        for (int root = 1; root <= 9; root++) {
            PrefixCodes x = new PrefixCodes();
            int size = 1 << root;
            Check.due("19: a word of the root's bits", x.table(Check.codeOf(x, root), root), size);
            dueEntry("a word of the root's bits", x, 0, SYMBOL, 0, root);
            dueEntry("a word of the root's bits", x, 1, NOTHING, -1, 0);
            Check.due("19: one bit more", x.table(Check.codeOf(x, root + 1), root), size + 2);
            dueEntry("one bit more", x, 0, LINK, size, 1);
            dueEntry("one bit more", x, 1, NOTHING, -1, 0);
            dueEntry("one bit more", x, size, SYMBOL, 0, root + 1);
            dueEntry("one bit more", x, size + 1, NOTHING, -1, 0);
            Check.dueOutOfBounds("20: one bit more, behind the last", () -> x.entry(size + 2, 0));
        }
    }

    private static void tableOfTheLongestParts() {
        for (int root = 1; root <= 9; root++) {
            PrefixCodes x = new PrefixCodes();
            int size = 1 << root;
            int part = 1 << 15 - root;
            Check.due("19: a word of 15 bits", x.table(Check.codeOf(x, 15), root), size + part);
            dueEntry("a word of 15 bits", x, 0, LINK, size, 15 - root);
            dueEntry("a word of 15 bits", x, size, SYMBOL, 0, 15);
            dueEntry("a word of 15 bits", x, size + 1, NOTHING, -1, 0);
            dueEntry("a word of 15 bits", x, size + part - 1, NOTHING, -1, 0);
            Check.due("19: the ladder", x.table(Check.codeOf(x, ladder(15)), root), size + part);
            dueEntry("the ladder", x, size - 2, SYMBOL, root - 1, root);
            dueEntry("the ladder", x, size - 1, LINK, size, 15 - root);
            dueEntry("the ladder", x, size, SYMBOL, root, root + 1);
            dueEntry("the ladder", x, size + part - 2, SYMBOL, 14, 15);
            dueEntry("the ladder", x, size + part - 1, SYMBOL, 15, 15);
        }
    }

    /** Words 0 (4), 10 00 (0), 10 01 (1), 10 10 (2), 10 11 0 (3), 10 11 1 (5), 11 00 0 (6). */
    private static void tableWithPartsInOrder() {
        PrefixCodes x = new PrefixCodes();
        int code = Check.codeOf(x, 4, 4, 4, 5, 1, 5, 5);
        Check.due("19: two parts, each by its longest word", x.table(code, 2), 4 + 8 + 8);
        dueEntry("two parts", x, 0, SYMBOL, 4, 1);
        dueEntry("two parts", x, 1, SYMBOL, 4, 1);
        dueEntry("two parts", x, 2, LINK, 4, 3);
        dueEntry("two parts", x, 3, LINK, 12, 3);
        int[] symbols = {0, 0, 1, 1, 2, 2, 3, 5, 6};
        for (int i = 0; i < symbols.length; i++) {
            dueEntry("two parts", x, 4 + i, SYMBOL, symbols[i], symbols[i] < 3 ? 4 : 5);
        }
        for (int i = 13; i < 20; i++) {
            dueEntry("two parts", x, i, NOTHING, -1, 0);
        }
        Check.due("19: three bits", x.table(code, 3), 8 + 2 + 4 + 4);
        dueEntry("three bits", x, 4, LINK, 8, 1);
        dueEntry("three bits", x, 5, LINK, 10, 2);
        dueEntry("three bits", x, 6, LINK, 14, 2);
        dueEntry("three bits", x, 7, NOTHING, -1, 0);
        dueEntry("three bits", x, 8, SYMBOL, 0, 4);
        dueEntry("three bits", x, 11, SYMBOL, 2, 4);
        dueEntry("three bits", x, 13, SYMBOL, 5, 5);
        dueEntry("three bits", x, 14, SYMBOL, 6, 5);
        dueEntry("three bits", x, 15, NOTHING, -1, 0);
    }

    /** The table of a code, as this is now, is told from now on, whatever becomes of the code. */
    private static void tableThatStays() {
        PrefixCodes x = new PrefixCodes();
        int code = Check.codeOf(x, 1, 2, 2);
        x.table(code, 1);
        x.length(code, 0, 0);
        dueEntry("a word is gone", x, 0, SYMBOL, 0, 1);
        x.length(code, 0, 1);
        x.length(code, 1, 1);
        x.length(code, 2, 1);
        Check.due("19: it is OVER", x.table(code, 1), STATE);
        dueEntry("the code is OVER", x, 1, LINK, 2, 1);
        dueEntry("the code is OVER", x, 3, SYMBOL, 2, 2);
        x.length(code, 2, 0);
        dueEntry("the code has others", x, 2, SYMBOL, 1, 2);
        Check.due("19: its table now", x.table(code, 1), 2);
        dueEntry("its table now", x, 1, SYMBOL, 1, 1);
        Check.dueOutOfBounds("20: its table now, behind the last", () -> x.entry(2, 0));
    }

    /** An object is used for at most 512 calls: the last of them answers like the first. */
    private static void the512thCall() {
        PrefixCodes x = new PrefixCodes();
        for (int call = 1; call <= 511; call++) {
            x.count(call % 64, call);
        }
        Check.due("the 512th call", x.count(511 % 64, 0), 511);
    }
}
