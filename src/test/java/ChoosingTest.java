import java.util.Arrays;

/** Promises 23 to 26: choose, group, write, read. */
public final class ChoosingTest {
    private static final int UNKNOWN = PrefixCodes.UNKNOWN;
    private static final int OUTSIDE = PrefixCodes.OUTSIDE;
    private static final int STATE = PrefixCodes.STATE;
    private static final int ENDED = PrefixCodes.ENDED;
    private static final int BAD = PrefixCodes.BAD;
    private static final int ROOM = PrefixCodes.ROOM;

    /** Groups of three; the lengths of both codes are 2 1 2 at first. */
    private static final int[] THREE_GROUPS = {0, 0, 0, 1, 1, 1, 1, 1, 2};
    /** Groups of two; by one round the codes are 0 0 1 0 0 1. */
    private static final int[] SIX_GROUPS = {0, 0, 1, 1, 2, 2, 0, 0, 1, 1, 2, 2};
    private static final String SIX_WRITTEN = "0 0 10 10 0 10  1010 00 00 1010 00 00";

    public static void main(String[] args) {
        chooseWithoutRounds();
        chooseByRounds();
        chooseFirstGroups();
        chooseOneSymbol();
        chooseUnderLimit();
        chooseLeavesTheRest();
        chooseRefused();
        chooseWithoutRoom();
        group();
        write();
        writeWithLaterLengths();
        writeRefused();
        writeWithoutRoom();
        read();
        readByHand();
        readRefused();
        readEnded();
        readBad();
        readMost();
        Check.end();
    }

    private static int[] of64(int... lengths) {
        return Arrays.copyOf(lengths, 64);
    }

    private static PrefixCodes withText(int... text) {
        PrefixCodes x = new PrefixCodes();
        Check.addText(x, text);
        return x;
    }

    private static void chooseWithoutRounds() {
        PrefixCodes x = withText(THREE_GROUPS);
        x.code(1);
        Check.due("23: the first one", x.choose(2, 3, 15, 0), 1);
        Check.dueGroups("24: without rounds", x, 0, 0, 1);
        Check.dueLengths("23: code 0", x, 1, of64(2, 1, 2));
        Check.dueLengths("23: code 1", x, 2, of64(2, 1, 2));
        Check.due("23: no more codes", x.about(3, 0), UNKNOWN);
    }

    /** Both codes are alike, so all groups get the first; then code 1 is made by 1 1 1. */
    private static void chooseByRounds() {
        PrefixCodes x = withText(THREE_GROUPS);
        Check.due("23: one round", x.choose(2, 3, 15, 1), 0);
        Check.dueGroups("24: of several the first one", x, 0, 0, 0);
        Check.dueLengths("23: code 0, once more", x, 0, of64(2, 1, 2));
        Check.dueLengths("23: code 1, once more", x, 1, of64(2, 2, 1));
        PrefixCodes y = withText(SIX_GROUPS);
        Check.due("23: three codes", y.choose(3, 2, 15, 1), 0);
        Check.dueGroups("24: three codes", y, 0, 0, 1, 0, 0, 1);
        Check.dueLengths("23: code 0 of three", y, 0, of64(2, 1, 2));
        Check.dueLengths("23: code 1 of three", y, 1, of64(2, 2, 1));
        Check.dueLengths("23: code 2 of three", y, 2, of64(2, 2, 1));
    }

    private static void chooseFirstGroups() {
        PrefixCodes x = withText(0, 1, 0, 1, 0, 1, 0, 1, 0, 1);
        x.choose(4, 1, 1, 0);
        Check.dueGroups("24: ten groups, four codes", x, 0, 0, 0, 1, 1, 2, 2, 2, 3, 3);
        x.choose(6, 4, 1, 0);
        Check.dueGroups("24: three groups, six codes", x, 0, 2, 4);
        x.choose(1, 3, 1, 8);
        Check.dueGroups("24: four groups, the last of one symbol", x, 0, 0, 0, 0);
    }

    private static void chooseOneSymbol() {
        PrefixCodes x = withText(63, 63);
        Check.due("23: one symbol alone", x.choose(2, 100, 1, 8), 0);
        int[] lengths = new int[64];
        lengths[63] = 1;
        Check.dueGroups("24: a group greater than the text", x, 0);
        Check.dueLengths("23: one alone is 1", x, 0, lengths);
        Check.dueLengths("23: a code without groups", x, 1, lengths);
    }

    private static void chooseUnderLimit() {
        PrefixCodes x = withText(0, 1, 2, 2, 3, 3, 3, 3, 4, 4, 4, 4, 4, 4, 4, 4);
        // Counts are 2 2 3 5 9, each one more than the symbol comes.
        Check.due("23: limit 15", x.choose(1, 50, 15, 0), 0);
        Check.due("23: limit 3", x.choose(1, 50, 3, 0), 1);
        Check.dueLengths("23: limit 15", x, 0, of64(4, 4, 3, 2, 1));
        Check.dueLengths("23: limit 3", x, 1, of64(3, 3, 3, 3, 1));
    }

    private static void chooseLeavesTheRest() {
        PrefixCodes x = withText(SIX_GROUPS);
        x.count(0, 17);
        x.count(1, 5);
        x.choose(2, 3, 15, 2);
        Check.due("23: counts stay", x.count(0, 0), 17);
        Check.due("23: counts stay", x.count(1, 0), 5);
        Check.due("23: no bits are put", x.bits(), 0);
        Check.dueText("23: the text stays", x, SIX_GROUPS);
    }

    private static void chooseRefused() {
        PrefixCodes x = new PrefixCodes();
        Check.due("23: no text", x.choose(1, 1, 15, 0), STATE);
        Check.due("23: OUTSIDE goes before STATE", x.choose(0, 1, 15, 0), OUTSIDE);
        Check.addText(x, 0, 1, 2, 3, 4);
        int[][] wrong = {
            {0, 1, 3, 0}, {7, 1, 3, 0}, {1, 0, 3, 0}, {1, 101, 3, 0}, {1, 1, 0, 0}, {1, 1, 16, 0},
            {1, 1, 3, -1}, {1, 1, 3, 9}, {-1, 1, 3, 0}, {1, -1, 3, 0}, {1, 1, -1, 0},
            {Integer.MAX_VALUE, 1, 3, 0}, {1, Integer.MIN_VALUE, 3, 0}
        };
        for (int[] w : wrong) {
            Check.due("23: " + Arrays.toString(w), x.choose(w[0], w[1], w[2], w[3]), OUTSIDE);
        }
        Check.due("23: five symbols, limit 2", x.choose(1, 1, 2, 0), STATE);
        Check.due("23: no code is made", x.about(0, 0), UNKNOWN);
        Check.due("24: none was", x.group(0), STATE);
        Check.due("23: five symbols, limit 3", x.choose(1, 1, 3, 0), 0);
        x.forget();
        Check.addText(x, 3, 4, 3, 4);
        Check.due("23: two symbols, limit 1", x.choose(1, 1, 1, 0), 1);
        Check.addText(x, 4, 4, 5);
        Check.due("23: three symbols, limit 1", x.choose(1, 1, 1, 0), STATE);
        Check.due("23: the greatest numbers", x.choose(6, 100, 15, 8), 2);
    }

    private static void chooseWithoutRoom() {
        PrefixCodes x = withText(SIX_GROUPS);
        x.code(1);
        x.choose(3, 2, 15, 1);
        x.choose(3, 3, 15, 0);
        Check.due("23: six more, five are free", x.choose(6, 4, 15, 0), ROOM);
        Check.dueGroups("24: refused, the choosing before stays", x, 0, 0, 1, 2);
        Check.due("23: no code is made", x.about(7, 0), UNKNOWN);
        Check.due("23: five more", x.choose(5, 4, 15, 0), 7);
        Check.due("23: one more", x.choose(1, 4, 15, 0), ROOM);
        Check.due("23: OUTSIDE goes before ROOM", x.choose(1, 4, 16, 0), OUTSIDE);
        Check.due("23: STATE goes before ROOM", x.choose(1, 4, 1, 0), STATE);
    }

    private static void group() {
        PrefixCodes x = withText(THREE_GROUPS);
        Check.due("24: none was", x.group(0), STATE);
        Check.due("24: STATE goes before OUTSIDE", x.group(-1), STATE);
        x.code(5);
        x.choose(2, 3, 15, 0);
        Check.due("24: 0 is the first of them", x.group(0), 0);
        Check.due("24: the last group", x.group(2), 1);
        Check.due("24: group 3", x.group(3), OUTSIDE);
        Check.due("24: group -1", x.group(-1), OUTSIDE);
        Check.due("24: the greatest number", x.group(Integer.MAX_VALUE), OUTSIDE);
        x.forget();
        Check.due("24: the text may go", x.group(2), 1);
        Check.addText(x, 1, 2, 3, 4);
        x.choose(3, 2, 15, 0);
        Check.dueGroups("24: the latest", x, 0, 1);
    }

    private static void write() {
        PrefixCodes x = withText(THREE_GROUPS);
        x.code(5);
        x.choose(2, 3, 15, 0);
        x.putNumber(1, 1);
        Check.due("25: how many bits", x.write(), 17);
        Check.dueBits("25: the bits", x, "1  0 0 10  101010 000 0011");
        PrefixCodes y = withText(SIX_GROUPS);
        y.choose(3, 2, 15, 1);
        Check.due("25: six groups", y.write(), 25);
        Check.dueBits("25: the code that was told goes ahead", y, SIX_WRITTEN);
        y.clear();
        y.forget();
        Check.addText(y, 9, 9, 9);
        Check.due("25: the text as it was then", y.write(), 25);
        Check.dueBits("25: the text as it was then", y, SIX_WRITTEN);
        Check.dueText("25: the text as it is now", y, 9, 9, 9);
        PrefixCodes z = withText(1, 1, 2, 2, 3, 3);
        z.choose(3, 2, 15, 0);
        Check.due("25: three places", z.write(), 1 + 2 + 3 + 6);
        Check.due("25: places 0 1 2", z.takeNumber(6), 0b010110);
    }

    private static void writeWithLaterLengths() {
        PrefixCodes x = withText(THREE_GROUPS);
        x.choose(2, 3, 15, 0);
        x.length(0, 0, 1);
        x.length(0, 1, 3);
        x.length(0, 7, 3);
        Check.due("25: codes as they are now", x.write(), 4 + 3 + 9 + 4);
        Check.dueBits("25: codes as they are now", x, "0 0 10  000 110110110 0011");
    }

    private static void writeRefused() {
        PrefixCodes x = withText(THREE_GROUPS);
        Check.due("25: none was", x.write(), STATE);
        x.choose(2, 3, 15, 0);
        x.length(0, 2, 0);
        Check.due("25: code 0 needs no word for 2", x.write(), 17);
        x.length(1, 2, 0);
        Check.due("25: code 1 needs one", x.write(), STATE);
        x.length(1, 2, 1);
        Check.due("25: OVER", x.write(), STATE);
        Check.due("25: refused, nothing is put", x.bits(), 17);
        x.length(1, 0, 0);
        Check.due("25: mended", x.write(), 4 + 6 + 3 + 3);
        PrefixCodes y = withText(SIX_GROUPS);
        y.choose(3, 2, 15, 1);
        y.length(2, 0, 1);
        y.length(2, 1, 1);
        Check.due("25: a code without groups is OVER", y.write(), 25);
        y.length(2, 0, 0);
        y.length(2, 1, 0);
        y.length(2, 2, 0);
        Check.due("25: a code without groups is NONE", y.write(), 25);
    }

    private static void writeWithoutRoom() {
        PrefixCodes x = withText(SIX_GROUPS);
        x.choose(3, 2, 15, 1);
        x.code(64);
        for (int i = 0; i < 78; i++) {
            x.pack(3, 0);
        }
        Check.due("25: 32 bits are free", x.write(), 25);
        Check.due("25: 7 bits are free", x.write(), ROOM);
        Check.due("25: nothing is put", x.bits(), 19993);
        x.takeNumber(18);
        Check.due("25: just the room", x.write(), 25);
        Check.due("25: none is free", x.write(), ROOM);
        x.length(0, 0, 0);
        Check.due("25: STATE goes before ROOM", x.write(), STATE);
    }

    private static void read() {
        PrefixCodes x = withText(SIX_GROUPS);
        x.code(1);
        x.choose(3, 2, 15, 1);
        x.write();
        x.putNumber(5, 3);
        x.forget();
        Check.due("26: how many", x.read(1, 3, 2, 12), 12);
        Check.dueText("26: they are the text", x, SIX_GROUPS);
        Check.dueBits("26: what is behind stays", x, "101");
        Check.dueGroups("26: the choosing stays", x, 0, 0, 1, 0, 0, 1);
        x.clear();
        x.write();
        Check.dueBits("26: it can be written still", x, SIX_WRITTEN);
        Check.addText(x, 4, 4);
        Check.due("26: fewer symbols", x.read(1, 3, 2, 11), 11);
        Check.dueText("26: fewer symbols", x, Arrays.copyOf(SIX_GROUPS, 11));
        Check.dueBits("26: fewer symbols, what stays", x, "0");
    }

    private static void readByHand() {
        PrefixCodes x = new PrefixCodes();
        // Words 0: 0, 1: 10, 2: 11; and 0: 10, 1: 11, 2: 0.
        Check.codeOf(x, 1, 2, 2);
        Check.codeOf(x, 2, 2, 1);
        Check.codeOf(x, 0, 1);
        // Codes 1, 1, 0, 2 and groups of two, the last of one.
        Check.putBits(x, "10 0 10 110  0 10 11 11 11 0 0  01");
        Check.due("26: by hand", x.read(0, 3, 2, 7), 7);
        Check.dueText("26: by hand", x, 2, 0, 1, 1, 2, 0, 1);
        Check.dueBits("26: by hand, what stays", x, "01");
        x.clear();
        Check.putBits(x, "0 10");
        Check.due("26: one symbol of one code", x.read(1, 1, 100, 1), 1);
        Check.dueText("26: one symbol of one code", x, 0);
    }

    private static void readRefused() {
        PrefixCodes x = withText(7, 8);
        Check.codeOf(x, 1, 2, 2);
        Check.codeOf(x, 1, 1, 1);
        x.code(4);
        Check.codeOf(x, 1, 1);
        Check.putBits(x, "0000000000");
        Check.due("26: no such code", x.read(4, 1, 1, 1), UNKNOWN);
        Check.due("26: code -1", x.read(-1, 2, 1, 1), UNKNOWN);
        Check.due("26: one behind it", x.read(3, 2, 1, 1), UNKNOWN);
        Check.due("26: UNKNOWN goes before OUTSIDE", x.read(3, 7, 0, 0), UNKNOWN);
        Check.due("26: the greatest number", x.read(0, Integer.MAX_VALUE, 1, 1), UNKNOWN);
        Check.due("26: no codes", x.read(0, 0, 1, 1), OUTSIDE);
        Check.due("26: fewer than none", x.read(0, Integer.MIN_VALUE, 1, 1), OUTSIDE);
        Check.due("26: UNKNOWN though no codes are asked", x.read(4, 0, 1, 1), UNKNOWN);
        Check.due("26: size 0", x.read(0, 1, 0, 1), OUTSIDE);
        Check.due("26: size 101", x.read(0, 1, 101, 1), OUTSIDE);
        Check.due("26: symbols 0", x.read(0, 1, 1, 0), OUTSIDE);
        Check.due("26: symbols 1001", x.read(0, 1, 1, 1001), OUTSIDE);
        Check.due("26: OVER", x.read(1, 1, 1, 1), STATE);
        Check.due("26: NONE", x.read(2, 2, 1, 1), STATE);
        Check.due("26: any of the codes", x.read(0, 2, 1, 1), STATE);
        Check.due("26: OUTSIDE goes before STATE", x.read(1, 1, 1, 0), OUTSIDE);
        Check.due("26: nothing is taken", x.bits(), 10);
        Check.dueText("26: the text stays", x, 7, 8);
        for (int code = 4; code < 12; code++) {
            Check.codeOf(x, 1, 1);
        }
        Check.due("26: seven codes that are there", x.read(3, 7, 1, 1), OUTSIDE);
        Check.due("26: six codes that are there", x.read(6, 6, 1, 1), 1);
        Check.due("26: seven codes, the last one is not", x.read(6, 7, 1, 1), UNKNOWN);
        x.clear();
        Check.due("26: STATE goes before ENDED", x.read(1, 1, 1, 1), STATE);
    }

    private static void dueRefused(String what, String bits, int symbols, int refusal, String left) {
        PrefixCodes x = withText(7, 8);
        Check.codeOf(x, 1, 2, 2);
        Check.codeOf(x, 2, 3);
        Check.putBits(x, bits);
        Check.due("26: " + what, x.read(0, 2, 2, symbols), refusal);
        Check.dueBits("26: " + what + ", what is left", x, left);
        Check.dueText("26: " + what + ", the text stays", x, 7, 8);
    }

    private static void readEnded() {
        dueRefused("no bits", "", 1, ENDED, "");
        dueRefused("within SELECTORS", "1", 1, ENDED, "");
        dueRefused("behind a SELECTOR", "10", 4, ENDED, "");
        dueRefused("behind SELECTORS", "10 0", 4, ENDED, "");
        dueRefused("within a word", "0 0 11 10 1", 3, ENDED, "");
        dueRefused("between words", "0 0 11 10", 3, ENDED, "");
    }

    private static void readBad() {
        dueRefused("place 2 of two codes", "11 0 1", 1, BAD, "01");
        dueRefused("place 2 of two codes further on", "0 10 11 1 01", 6, BAD, "101");
        dueRefused("no word begins with 1", "10 1 0", 1, BAD, "0");
        dueRefused("no word begins with 011", "10 00 011 1", 2, BAD, "1");
        PrefixCodes x = new PrefixCodes();
        Check.codeOf(x, 1, 1);
        Check.putBits(x, "10");
        Check.due("26: place 1 of one code", x.read(0, 1, 1, 1), BAD);
        Check.dueBits("26: its last 1 is taken", x, "0");
    }

    private static void readMost() {
        int[] text = new int[1000];
        for (int i = 0; i < 1000; i++) {
            text[i] = i % 5 == 0 ? i / 5 % 64 : i % 5 == 1 ? 63 : i * 7 % (4 + i / 20);
        }
        PrefixCodes x = withText(text);
        int first = x.choose(6, 1, 6, 8);
        int bits = x.write();
        Check.due("25: as many bits as it says", x.bits(), bits);
        x.forget();
        Check.due("26: a thousand symbols", x.read(first, 6, 1, 1000), 1000);
        // Not each of them, since an object is good for 512 calls.
        for (int i = 0; i < 1000; i += 4) {
            Check.due("26: symbol " + i + " of a thousand", x.symbol(i), text[i]);
        }
        Check.due("26: the last symbol of a thousand", x.symbol(999), text[999]);
        Check.due("26: all is taken", x.bits(), 0);
    }
}
