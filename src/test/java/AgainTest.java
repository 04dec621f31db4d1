import java.util.ArrayDeque;
import java.util.Deque;
import java.util.Random;

/**
 * Bits that are put and taken again and again, many more in all than fit at once: at the end, from
 * the beginning and from the end, by numbers, words, packed lengths and texts, with a stream that is
 * nearly empty and one that is full.
 */
public final class AgainTest {
    private static final int ENDED = PrefixCodes.ENDED;
    private static final int ROOM = PrefixCodes.ROOM;

    public static void main(String[] args) {
        textsAgain();
        longTextsAgain();
        fullStreamByNumbers();
        fullStreamByWords();
        fullStreamByPacking();
        fullStreamByTexts();
        wordsAtTheEnd();
        clearedAgain();
        roomGivenBackAgain();
        lengthsAgain();
        readRefusedAgain();
        numbersAgain();
        Check.end();
    }

    private static int[] ladder() {
        int[] lengths = new int[16];
        for (int symbol = 0; symbol < 15; symbol++) {
            lengths[symbol] = symbol + 1;
        }
        lengths[15] = 15;
        return lengths;
    }

    private static void takeMany(PrefixCodes x, int bits) {
        for (int left = bits; left > 0; left -= 30) {
            x.takeNumber(Math.min(left, 30));
        }
    }

    /** 100 times some 3000 bits. */
    private static void textsAgain() {
        PrefixCodes x = States.fillText(new PrefixCodes(), 0);
        PrefixCodes same = States.fillText(new PrefixCodes(), 0);
        x.choose(3, 7, 15, 3);
        int bits = x.write();
        Check.due("26: at first", x.read(0, 3, 7, 1000), 1000);
        for (int again = 0; again < 75; again++) {
            Check.due("25: again", x.write(), bits);
            Check.due("26: again", x.read(0, 3, 7, 1000), 1000);
            Check.due("26: a symbol", x.symbol(again * 13), same.symbol(again * 13));
            Check.due("10: none is left", x.bits(), 0);
        }
    }

    /** With words of 15 bits one write() is most of the stream: one and a half million bits in all. */
    private static void longTextsAgain() {
        PrefixCodes x = new PrefixCodes();
        for (int i = 0; i < 200; i++) {
            x.add(i % 3, 1, 2, 0, i % 2);
        }
        x.choose(1, 100, 15, 0);
        for (int symbol = 0; symbol < 3; symbol++) {
            x.length(0, symbol, 15);
        }
        for (int again = 0; again < 100; again++) {
            Check.due("25: long words", x.write(), 15010);
            Check.due("25: no room for another time", x.write(), ROOM);
            Check.due("26: long words", x.read(0, 1, 100, 1000), 1000);
        }
        Check.due("26: the first symbol", x.symbol(0), 0);
        Check.due("26: the last symbol", x.symbol(999), 1);
    }

    private static void fullStreamByNumbers() {
        for (int n : new int[] {1, 7, 29, 30}) {
            PrefixCodes x = States.fillBits(new PrefixCodes(), 0);
            for (int again = 0; again < 120; again++) {
                Check.due("13: it is full", x.putNumber(again, n), ROOM);
                Check.due("14: a number is taken", x.takeNumber(n) >= 0 ? 1 : 0, 1);
                Check.due("13: one is put", x.putNumber(again * 5 + 1, n), 20000);
            }
            for (int again = 0; again < 30; again++) {
                int last = 20000 - n * (120 - again) + n - 1;
                Check.due("11: the last bit of number " + again, x.bit(last), again * 5 + 1 & 1);
            }
        }
    }

    private static void fullStreamByWords() {
        PrefixCodes x = new PrefixCodes();
        int code = Check.codeOf(x, ladder());
        States.fillBits(x, 15 * 16);
        for (int symbol = 0; symbol < 16; symbol++) {
            x.put(code, 15, false);
        }
        Check.due("15: full", x.put(code, 0, false), ROOM);
        for (int again = 0; again < 60; again++) {
            int symbol = again % 16;
            int length = Math.min(15, symbol + 1);
            takeMany(x, length);
            Check.due("15: a word into what is free", x.put(code, symbol, again % 2 == 0), 20000);
            Check.due("15: full again", x.put(code, 0, true), ROOM);
        }
        // At last came the word of symbol 10, back (a 0 and ten 1s), and that of 11 (eleven 1s and a 0).
        int[] due = {0, 1, 1, 1, 1, 1, 1, 1, 1, 1, 1, 1, 1, 1, 1, 1, 1, 1, 1, 1, 1, 1, 0};
        for (int i = 0; i < due.length; i++) {
            Check.due("15: bit " + i + " of the last two words", x.bit(20000 - due.length + i), due[i]);
        }
    }

    private static void fullStreamByPacking() {
        PrefixCodes x = new PrefixCodes();
        int[] lengths = new int[64];
        for (int symbol = 0; symbol < 64; symbol++) {
            lengths[symbol] = symbol * 7 % 16;
        }
        int code = Check.codeOf(x, lengths);
        for (int i = 0; i < 78; i++) {
            Check.due("17: until it is full", x.pack(code, 0), 256);
        }
        for (int made = 1; made < 12; made++) {
            Check.due("17: full", x.pack(code, 0), ROOM);
            Check.due("18: one is read", x.unpack(64, 0), made);
            Check.due("17: one is packed", x.pack(code, 0), 256);
            Check.due("10: as many as before", x.bits(), 19968);
        }
        for (int symbol = 0; symbol < 64; symbol++) {
            Check.due("18: the last one's length", x.length(11, symbol, 0), lengths[symbol]);
        }
        // Twelve codes are there: what is read is given back each time.
        for (int again = 0; again < 20; again++) {
            Check.due("18: ROOM", x.unpack(64, 0), ROOM);
            Check.due("18: nothing is taken", x.bits(), 19968);
            Check.due("14: 0 and 7 and 14", x.takeNumber(12), 0x07E);
            takeMany(x, 244);
            Check.due("17: one is packed", x.pack(code, 0), 256);
        }
    }

    private static void fullStreamByTexts() {
        PrefixCodes x = new PrefixCodes();
        x.add(0, 1, 2, 3, 0);
        x.add(1, 2, 3, 0, 1);
        x.choose(1, 2, 15, 0);
        for (int symbol = 0; symbol < 4; symbol++) {
            x.length(0, symbol, 15);
        }
        // 155 bits each: 129 times they fit.
        for (int i = 0; i < 129; i++) {
            Check.due("25: until it is full", x.write(), 155);
        }
        for (int again = 0; again < 80; again++) {
            Check.due("25: full", x.write(), ROOM);
            Check.due("26: one is read", x.read(0, 1, 2, 10), 10);
            Check.due("25: one is written", x.write(), 155);
            Check.due("10: as many as before", x.bits(), 19995);
        }
        Check.dueText("26: the text", x, 0, 1, 2, 3, 0, 1, 2, 3, 0, 1);
    }

    /** Put and taken at the end alone, to and fro around the 20000th bit. */
    private static void wordsAtTheEnd() {
        for (int free = 0; free < 64; free += 9) {
            PrefixCodes x = new PrefixCodes();
            int code = Check.codeOf(x, ladder());
            States.fillBits(x, free);
            takeMany(x, 120);
            int bits = x.bits();
            for (int symbol = 15; symbol >= 0; symbol--) {
                x.put(code, symbol % 9, true);
            }
            for (int symbol = 0; symbol <= 15; symbol++) {
                Check.due("16: from the end", x.take(code, true), symbol % 9);
            }
            Check.due("16: what was before stays", x.bits(), bits);
            for (int again = 0; again < 40; again++) {
                x.put(code, again % 16, true);
                Check.due("16: put and taken", x.take(code, true), again % 16);
            }
            Check.due("16: what was before stays", x.bits(), bits);
        }
    }

    private static void clearedAgain() {
        PrefixCodes x = new PrefixCodes();
        int code = x.code(64);
        x.length(code, 0, 9);
        x.length(code, 63, 6);
        for (int again = 0; again < 5; again++) {
            for (int i = 0; i < 78; i++) {
                x.pack(code, 0);
            }
            Check.due("14: the first of them", x.takeNumber(5), 0b10010);
            Check.due("12: all go", x.clear(), 19963);
            Check.due("14: none is left", x.takeNumber(1), ENDED);
            Check.due("13: the first one then", x.putNumber(5, 3), 3);
            Check.dueBits("13: the first one then", x, "101");
            Check.due("12: all go again", x.clear(), 3);
        }
    }

    /** Lengths that stand around the 20000th bit are read and given back, since no code is free. */
    private static void roomGivenBackAgain() {
        int[] lengths = new int[64];
        for (int symbol = 0; symbol < 64; symbol++) {
            lengths[symbol] = symbol < 20 ? 3 : symbol < 40 ? 0 : symbol % 16;
        }
        for (int ahead = 1; ahead < 256; ahead += 23) {
            for (int manner = 0; manner < 3; manner++) {
                PrefixCodes x = new PrefixCodes();
                int code = Check.codeOf(x, lengths);
                takeAllBut(x, ahead);
                int bits = x.pack(code, manner);
                States.fillCodes(x, 0);
                String told = firstBits(x);
                for (int again = 0; again < 3; again++) {
                    Check.due("18: ROOM", x.unpack(64, manner), ROOM);
                    Check.due("18: nothing is taken", x.bits(), bits);
                }
                Check.due("18: the first bits are there", firstBits(x), told);
            }
        }
    }

    private static String firstBits(PrefixCodes x) {
        StringBuilder bits = new StringBuilder();
        for (int i = 0; i < 60; i++) {
            bits.append(x.bit(i));
        }
        return bits.toString();
    }

    /** So many bits short of 20000 are put, and taken in few calls as words of 15 bits. */
    private static void takeAllBut(PrefixCodes x, int ahead) {
        int longest = Check.codeOf(x, 15);
        States.fillBits(x, ahead);
        Check.due("26: a thousand words", x.read(longest, 1, 100, 1000), 1000);
        Check.due("26: more words", x.read(longest, 1, 100, 300), 300);
        takeMany(x, x.bits());
        Check.due("10: none is left", x.bits(), 0);
    }

    /** What was packed, or read, or refused before is of no account for what comes next. */
    private static void lengthsAgain() {
        int[][] rows = {{3, 3, 3, 3, 3, 7, 1, 15}, {0, 2, 0, 0, 0, 2, 0, 0}, {5, 0, 0, 5, 5, 5, 5, 0}};
        for (int manner = 0; manner < 3; manner++) {
            PrefixCodes x = new PrefixCodes();
            for (int[] row : rows) {
                Check.codeOf(x, row);
            }
            int[] bits = new int[3];
            for (int i = 0; i < 9; i++) {
                int packed = x.pack(i % 3, manner);
                bits[i % 3] = i < 3 ? packed : bits[i % 3];
                Check.due("17: as many as before", packed, bits[i % 3]);
            }
            for (int i = 0; i < 9; i++) {
                Check.due("18: a new code", x.unpack(8, manner), 3 + i);
            }
            Check.due("18: all are taken", x.bits(), 0);
            for (int i = 0; i < 9; i++) {
                Check.dueLengths("18: read the " + i + "th time", x, 3 + i, rows[i % 3]);
            }
        }
    }

    /** What ENDED takes is gone, time and again, and the text stays. */
    private static void readRefusedAgain() {
        PrefixCodes x = new PrefixCodes();
        x.add(4, 5, 6, -1, -1);
        Check.codeOf(x, 1, 2, 2);
        for (int again = 0; again < 50; again++) {
            Check.putBits(x, "0 0 10 11 1");
            Check.due("26: ENDED", x.read(0, 1, 2, 4), ENDED);
            Check.due("26: all are taken", x.bits(), 0);
            Check.putBits(x, "0 1");
            Check.due("26: BAD", x.read(0, 1, 1, 2), PrefixCodes.BAD);
            Check.due("26: all are taken", x.bits(), 0);
        }
        Check.dueText("26: the text stays", x, 4, 5, 6);
    }

    /** Numbers of all sizes, held against a row of bits; many objects, since one is good for 512 calls. */
    private static void numbersAgain() {
        for (int seed = 0; seed < 40; seed++) {
            Random random = new Random(seed);
            PrefixCodes x = States.fillBits(new PrefixCodes(), 0);
            Deque<Integer> row = new ArrayDeque<>();
            // The bits that are there: 256 0s 78 times, then 1 0 1 0 .. and 1 0.
            for (int i = 0; i < 19968; i++) {
                row.add(0);
            }
            for (int i = 0; i < 32; i++) {
                row.add(1 - i % 2);
            }
            for (int call = 0; call < 420; call++) {
                int n = 1 + random.nextInt(30);
                if (random.nextInt(21) < 10) {
                    int v = random.nextInt();
                    Check.due("13: put", x.putNumber(v, n), row.size() + n > 20000 ? ROOM : row.size() + n);
                    for (int i = n - 1, fits = 20000 - row.size(); i >= 0 && n <= fits; i--) {
                        row.add(v >> i & 1);
                    }
                } else {
                    int due = row.size() < n ? ENDED : 0;
                    for (int i = 0; i < n && due >= 0; i++) {
                        due = due << 1 | row.remove();
                    }
                    Check.due("14: taken", x.takeNumber(n), due);
                }
            }
            Check.due("10: as many as there are", x.bits(), row.size());
        }
    }
}
