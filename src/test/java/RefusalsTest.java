/**
 * Of two refusals that hold at once the one that the document puts first: UNKNOWN, OUTSIDE, STATE,
 * ENDED, BAD, ROOM; and behind a refused call nothing has changed but, for ENDED and BAD, what was
 * taken from the stream.
 */
public final class RefusalsTest {
    private static final int UNKNOWN = PrefixCodes.UNKNOWN;
    private static final int OUTSIDE = PrefixCodes.OUTSIDE;
    private static final int STATE = PrefixCodes.STATE;
    private static final int ENDED = PrefixCodes.ENDED;
    private static final int BAD = PrefixCodes.BAD;
    private static final int ROOM = PrefixCodes.ROOM;

    private static final boolean[] BOTH = {false, true};

    public static void main(String[] args) {
        code();
        length();
        about();
        wordAndPut();
        putWithoutRoom();
        least();
        numbers();
        takeOrder();
        takeBad();
        takeBadBack();
        pack();
        unpackOrder();
        unpackTakes();
        table();
        add();
        choose();
        groupAndWrite();
        readOrder();
        readAnyOfTheCodes();
        readTakes();
        Check.end();
    }

    private static PrefixCodes rich() {
        return States.rich("1011");
    }

    private static PrefixCodes withoutCodes() {
        return States.fillCodes(rich(), 0);
    }

    private static PrefixCodes withoutBits() {
        return States.fillBits(rich(), 0);
    }

    private static PrefixCodes empty() {
        return States.rich("");
    }

    // ---- codes

    private static void code() {
        Twins.dueRefused("2: OUTSIDE, ROOM", RefusalsTest::withoutCodes, x -> x.code(65), OUTSIDE);
        Twins.dueRefused("2: OUTSIDE, ROOM", RefusalsTest::withoutCodes, x -> x.code(0), OUTSIDE);
        Twins.dueRefused("2: ROOM", RefusalsTest::withoutCodes, x -> x.code(1), ROOM);
    }

    private static void length() {
        Twins.dueRefused("3: no code, OUTSIDE", RefusalsTest::rich, x -> x.length(7, 0, 16), UNKNOWN);
        Twins.dueRefused("3: no symbol, OUTSIDE", RefusalsTest::rich, x -> x.length(States.FULL, 4, -1), UNKNOWN);
        Twins.dueRefused("3: OUTSIDE", RefusalsTest::rich, x -> x.length(States.FULL, 3, -1), OUTSIDE);
    }

    private static void about() {
        Twins.dueRefused("4: UNKNOWN, OUTSIDE", RefusalsTest::rich, x -> x.about(7, 5), UNKNOWN);
        Twins.dueRefused("4: UNKNOWN, OUTSIDE", RefusalsTest::rich, x -> x.about(-1, -1), UNKNOWN);
    }

    private interface OfSymbol {
        long on(PrefixCodes x, int code, int symbol);
    }

    private static void wordAndPut() {
        for (boolean other : BOTH) {
            OfSymbol[] calls = {(x, code, symbol) -> x.word(code, symbol, other),
                (x, code, symbol) -> x.put(code, symbol, other)};
            for (OfSymbol call : calls) {
                Twins.dueRefused("5, 15: no symbol, OVER", RefusalsTest::rich,
                        x -> call.on(x, States.OVER, 3), UNKNOWN);
                Twins.dueRefused("5, 15: no symbol, NONE", RefusalsTest::rich,
                        x -> call.on(x, States.NONE, -1), UNKNOWN);
                Twins.dueRefused("5, 15: OVER, and a length", RefusalsTest::rich,
                        x -> call.on(x, States.OVER, 2), STATE);
                Twins.dueRefused("5, 15: the symbol has none", RefusalsTest::rich,
                        x -> call.on(x, States.HOLES, 2), STATE);
                Twins.dueRefused("5, 15: NONE", RefusalsTest::rich, x -> call.on(x, States.NONE, 2), STATE);
                Twins.dueRefused("5, 15: OVER, and the symbol has none", RefusalsTest::withGapInOver,
                        x -> call.on(x, 7, 1), STATE);
            }
        }
    }

    private static PrefixCodes withGapInOver() {
        PrefixCodes x = rich();
        Check.codeOf(x, 1, 0, 1, 1);
        return x;
    }

    private static void putWithoutRoom() {
        for (boolean back : BOTH) {
            Twins.dueRefused("15: no code, ROOM", RefusalsTest::withoutBits, x -> x.put(7, 0, back), UNKNOWN);
            Twins.dueRefused("15: no symbol, ROOM", RefusalsTest::withoutBits,
                    x -> x.put(States.FULL, 4, back), UNKNOWN);
            Twins.dueRefused("15: OVER, ROOM", RefusalsTest::withoutBits, x -> x.put(States.OVER, 0, back), STATE);
            Twins.dueRefused("15: no word, ROOM", RefusalsTest::withoutBits, x -> x.put(States.HOLES, 2, back), STATE);
            Twins.dueRefused("15: ROOM", RefusalsTest::withoutBits, x -> x.put(States.FULL, 1, back), ROOM);
        }
    }

    private static void least() {
        // Four of the first five symbols are counted.
        Twins.dueRefused("8: symbols, STATE", RefusalsTest::rich, x -> x.least(65, 1), OUTSIDE);
        Twins.dueRefused("8: limit, STATE", RefusalsTest::rich, x -> x.least(64, 0), OUTSIDE);
        Twins.dueRefused("8: symbols, ROOM", RefusalsTest::withoutCodes, x -> x.least(0, 15), OUTSIDE);
        Twins.dueRefused("8: limit, ROOM", RefusalsTest::withoutCodes, x -> x.least(1, 16), OUTSIDE);
        Twins.dueRefused("8: symbols, STATE, ROOM", RefusalsTest::withoutCodes, x -> x.least(65, 1), OUTSIDE);
        Twins.dueRefused("8: STATE, ROOM", RefusalsTest::withoutCodes, x -> x.least(5, 1), STATE);
        Twins.dueRefused("8: STATE", RefusalsTest::rich, x -> x.least(4, 1), STATE);
        Twins.dueRefused("8: ROOM", RefusalsTest::withoutCodes, x -> x.least(4, 2), ROOM);
    }

    // ---- the stream

    private static void numbers() {
        Twins.dueRefused("13: too many, ROOM", RefusalsTest::withoutBits, x -> x.putNumber(1, 31), OUTSIDE);
        Twins.dueRefused("13: none, ROOM", RefusalsTest::withoutBits, x -> x.putNumber(1, 0), OUTSIDE);
        Twins.dueRefused("13: ROOM", RefusalsTest::withoutBits, x -> x.putNumber(1, 1), ROOM);
        Twins.dueRefused("14: too many, ENDED", RefusalsTest::rich, x -> x.takeNumber(31), OUTSIDE);
        Twins.dueRefused("14: none, ENDED", RefusalsTest::empty, x -> x.takeNumber(0), OUTSIDE);
        Twins.dueRefused("14: ENDED", RefusalsTest::empty, x -> x.takeNumber(1), ENDED);
    }

    private static void takeOrder() {
        for (boolean back : BOTH) {
            Twins.dueRefused("16: UNKNOWN, ENDED", RefusalsTest::empty, x -> x.take(7, back), UNKNOWN);
            Twins.dueRefused("16: OVER, ENDED", RefusalsTest::empty, x -> x.take(States.OVER, back), STATE);
            Twins.dueRefused("16: NONE, ENDED", RefusalsTest::empty, x -> x.take(States.NONE, back), STATE);
            Twins.dueRefused("16: OVER", RefusalsTest::rich, x -> x.take(States.OVER, back), STATE);
            Twins.dueRefused("16: NONE", RefusalsTest::rich, x -> x.take(States.NONE, back), STATE);
            Twins.dueRefused("16: ENDED of none", RefusalsTest::empty, x -> x.take(States.SINGLE, back), ENDED);
        }
    }

    /** BAD: those are taken up to the first with which none does. */
    private static void takeBad() {
        Twins.dueTaken("16: SINGLE, a 1", () -> States.rich("1"), x -> x.take(States.SINGLE, false), BAD, 1);
        Twins.dueTaken("16: SINGLE, a 1 and more", () -> States.rich("1011"), x -> x.take(States.SINGLE, false), BAD, 1);
        Twins.dueTaken("16: HOLES, a 1", () -> States.rich("1"), x -> x.take(States.HOLES, false), BAD, 1);
        Twins.dueTaken("16: the third bit", () -> withThreeBits("0010"), x -> x.take(7, false), BAD, 3);
        Twins.dueTaken("16: the second bit", () -> withThreeBits("0110"), x -> x.take(7, false), BAD, 2);
        Twins.dueTaken("16: the first bit", () -> withThreeBits("100"), x -> x.take(7, false), BAD, 1);
        Twins.dueTaken("16: ENDED, all are taken", () -> States.rich("01"), x -> x.take(States.HOLES, false), ENDED, 2);
        Twins.dueTaken("16: ENDED, the one is taken", () -> States.rich("0"), x -> x.take(States.HOLES, false), ENDED, 1);
    }

    /** Code 7 has one word, 000. */
    private static PrefixCodes withThreeBits(String bits) {
        PrefixCodes x = States.rich(bits);
        Check.codeOf(x, 3);
        return x;
    }

    private static void takeBadBack() {
        dueTakenBack("16: SINGLE, a 1 at the end", "0101", "010", States.SINGLE, BAD);
        dueTakenBack("16: SINGLE, the only bit", "1", "", States.SINGLE, BAD);
        dueTakenBack("16: HOLES, a 1 at the end", "0011", "001", States.HOLES, BAD);
        dueTakenBack("16: ENDED, 01 from the end", "10", "", States.HOLES, ENDED);
        dueTakenBack("16: ENDED, 11 from the end", "11", "", States.FULL, ENDED);
    }

    private static void dueTakenBack(String what, String bits, String left, int code, int refusal) {
        Twins.dueAlike(what, () -> States.rich(bits), x -> x.take(code, true), refusal, () -> States.rich(left));
    }

    private static void pack() {
        Twins.dueRefused("17: UNKNOWN, OUTSIDE", RefusalsTest::rich, x -> x.pack(7, 3), UNKNOWN);
        Twins.dueRefused("17: UNKNOWN, OUTSIDE, ROOM", RefusalsTest::withoutBits, x -> x.pack(-1, -1), UNKNOWN);
        Twins.dueRefused("17: UNKNOWN, ROOM", RefusalsTest::withoutBits, x -> x.pack(7, 0), UNKNOWN);
        Twins.dueRefused("17: OUTSIDE, ROOM", RefusalsTest::withoutBits, x -> x.pack(States.FULL, 3), OUTSIDE);
        for (int manner = 0; manner < 3; manner++) {
            int by = manner;
            Twins.dueRefused("17: ROOM", RefusalsTest::withoutBits, x -> x.pack(States.FULL, by), ROOM);
        }
    }

    private static PrefixCodes withoutCodes(String bits) {
        return States.fillCodes(States.rich(bits), 0);
    }

    private static void unpackOrder() {
        Twins.dueRefused("18: symbols, ENDED", RefusalsTest::empty, x -> x.unpack(0, 0), OUTSIDE);
        Twins.dueRefused("18: manner, ENDED", RefusalsTest::empty, x -> x.unpack(1, 3), OUTSIDE);
        Twins.dueRefused("18: symbols, BAD", () -> States.rich("1111 10"), x -> x.unpack(65, 1), OUTSIDE);
        Twins.dueRefused("18: symbols, ROOM", () -> withoutCodes("1111"), x -> x.unpack(65, 0), OUTSIDE);
        Twins.dueRefused("18: manner, ROOM", () -> withoutCodes("1111"), x -> x.unpack(1, -1), OUTSIDE);
        for (int manner = 0; manner < 3; manner++) {
            int by = manner;
            Twins.dueRefused("18: ENDED of none, ROOM", () -> withoutCodes(""), x -> x.unpack(1, by), ENDED);
            Twins.dueRefused("18: ENDED of three bits, ROOM", () -> withoutCodes("111"), x -> x.unpack(1, by), ENDED);
        }
        Twins.dueTaken("18: PLAIN, ENDED, ROOM", () -> withoutCodes("1111 111"), x -> x.unpack(2, 0), ENDED, 4);
        Twins.dueTaken("18: STEPS, ENDED, ROOM", () -> withoutCodes("0001 10"), x -> x.unpack(1, 1), ENDED, 6);
        Twins.dueTaken("18: STEPS, BAD, ROOM", () -> withoutCodes("0000 11 11"), x -> x.unpack(1, 1), BAD, 6);
        Twins.dueTaken("18: RUNS, ENDED, ROOM", () -> withoutCodes("0000 000 001 000 000 0 00"),
                x -> x.unpack(3, 2), ENDED, 17);
        Twins.dueTaken("18: RUNS, BAD, ROOM", () -> withoutCodes("0000 000 001 000 000 0 001 0"),
                x -> x.unpack(3, 2), BAD, 20);
        Twins.dueRefused("18: ROOM", () -> withoutCodes("0000 000 001 000 000 0 000 0"), x -> x.unpack(3, 2), ROOM);
    }

    /** What stands first in the stream is met first: ENDED and BAD take just what stands before. */
    private static void unpackTakes() {
        Twins.dueTaken("18: BAD ahead of the end", () -> States.rich("1111 10 1"), x -> x.unpack(2, 1), BAD, 6);
        Twins.dueTaken("18: the end ahead of BAD", () -> States.rich("1111 1"), x -> x.unpack(2, 1), ENDED, 5);
        Twins.dueTaken("18: PLAIN", () -> States.rich("0000 1111 101"), x -> x.unpack(3, 0), ENDED, 8);
        Twins.dueTaken("18: commands NONE", () -> States.rich("0000 000 000 000 000 11"), x -> x.unpack(1, 2), BAD, 16);
        Twins.dueTaken("18: commands OVER", () -> States.rich("0000 001 001 001 000 1"), x -> x.unpack(1, 2), BAD, 16);
        Twins.dueTaken("18: commands HOLES", () -> States.rich("0000 010 000 000 000 0"), x -> x.unpack(1, 2), BAD, 16);
        Twins.dueTaken("18: commands end", () -> States.rich("0001 001 001 001 001 00"), x -> x.unpack(1, 2), ENDED, 16);
        Twins.dueTaken("18: no word comes", () -> States.rich("0000 000 000 000 001 1 1"), x -> x.unpack(1, 2), BAD, 17);
        Twins.dueTaken("18: 16 comes first, the end behind it", () -> States.rich("0000 001 000 000 000 0"),
                x -> x.unpack(4, 2), BAD, 17);
        Twins.dueTaken("18: 16 comes first, its bits stay", () -> States.rich("0000 001 000 000 000 0 11"),
                x -> x.unpack(4, 2), BAD, 17);
        Twins.dueTaken("18: a run beyond the last symbol", () -> States.rich("0000 000 000 001 000 0 0000000 1"),
                x -> x.unpack(10, 2), BAD, 24);
        Twins.dueTaken("18: the bits of a run end", () -> States.rich("0000 000 000 001 000 0 000000"),
                x -> x.unpack(10, 2), ENDED, 17);
    }

    // ---- tables

    private static void table() {
        Twins.dueRefused("19: UNKNOWN, OUTSIDE", RefusalsTest::rich, x -> x.table(7, 10), UNKNOWN);
        Twins.dueRefused("19: UNKNOWN, OUTSIDE", RefusalsTest::rich, x -> x.table(-1, 0), UNKNOWN);
        Twins.dueRefused("19: OUTSIDE, STATE", RefusalsTest::rich, x -> x.table(States.OVER, 0), OUTSIDE);
        Twins.dueRefused("19: OUTSIDE, STATE", RefusalsTest::rich, x -> x.table(States.OVER, 10), OUTSIDE);
        Twins.dueRefused("19: STATE", RefusalsTest::rich, x -> x.table(States.OVER, 9), STATE);
        Twins.dueThrown("20: no entry, nothing such to tell", RefusalsTest::rich, x -> x.entry(6, 3));
        Twins.dueThrown("20: no table, nothing such to tell", PrefixCodes::new, x -> x.entry(0, -1));
    }

    // ---- texts

    private static void add() {
        Twins.Maker full = () -> States.fillText(rich(), 0);
        Twins.Maker twoFree = () -> States.fillText(rich(), 2);
        Twins.dueRefused("21: OUTSIDE, ROOM", full, x -> x.add(64, -1, -1, -1, -1), OUTSIDE);
        Twins.dueRefused("21: OUTSIDE behind what has no room", full, x -> x.add(1, 1, 1, 1, 64), OUTSIDE);
        Twins.dueRefused("21: OUTSIDE behind what has room", twoFree, x -> x.add(1, 1, 64, -1, 1), OUTSIDE);
        Twins.dueRefused("21: ROOM", full, x -> x.add(0, -1, -1, -1, -1), ROOM);
        Twins.dueRefused("21: ROOM, none of them comes", twoFree, x -> x.add(1, 1, 1, -1, 64), ROOM);
    }

    private static PrefixCodes withoutText(PrefixCodes x) {
        x.forget();
        return x;
    }

    private static void choose() {
        int[][] wrong = {{0, 3, 15, 1}, {7, 3, 15, 1}, {1, 0, 15, 1}, {1, 101, 15, 1}, {1, 3, 0, 1}, {1, 3, 16, 1},
            {1, 3, 15, -1}, {1, 3, 15, 9}};
        for (int[] w : wrong) {
            Twins.Act act = x -> x.choose(w[0], w[1], w[2], w[3]);
            Twins.dueRefused("23: OUTSIDE, no text", () -> withoutText(rich()), act, OUTSIDE);
            Twins.dueRefused("23: OUTSIDE, ROOM", RefusalsTest::withoutCodes, act, OUTSIDE);
            Twins.dueRefused("23: OUTSIDE, no text, ROOM", () -> withoutText(withoutCodes()), act, OUTSIDE);
        }
        Twins.dueRefused("23: OUTSIDE, too many symbols", RefusalsTest::rich, x -> x.choose(1, 3, 1, 9), OUTSIDE);
        Twins.dueRefused("23: no text, ROOM", () -> withoutText(withoutCodes()), x -> x.choose(1, 3, 15, 1), STATE);
        Twins.dueRefused("23: too many symbols, ROOM", RefusalsTest::withoutCodes, x -> x.choose(1, 3, 1, 1), STATE);
        Twins.dueRefused("23: too many symbols", RefusalsTest::rich, x -> x.choose(1, 3, 1, 1), STATE);
        Twins.dueRefused("23: ROOM", RefusalsTest::withoutCodes, x -> x.choose(1, 3, 15, 1), ROOM);
        Twins.dueRefused("23: ROOM for five of six", RefusalsTest::rich, x -> x.choose(6, 3, 15, 1), ROOM);
    }

    private static void groupAndWrite() {
        for (int g : new int[] {-1, 0, 1000, Integer.MAX_VALUE, Integer.MIN_VALUE}) {
            Twins.dueRefused("24: none was, before all else", PrefixCodes::new, x -> x.group(g), STATE);
        }
        Twins.dueRefused("25: none was", PrefixCodes::new, x -> x.write(), STATE);
        Twins.dueRefused("25: none was, ROOM", () -> States.fillBits(new PrefixCodes(), 0), x -> x.write(), STATE);
        for (int free : new int[] {0, 4, 1000}) {
            Twins.dueRefused("25: OVER, ROOM", () -> withLength(States.CHOSEN, 9, 1, free), x -> x.write(), STATE);
            Twins.dueRefused("25: no word for a symbol, ROOM", () -> withLength(States.CHOSEN + 1, 3, 0, free),
                    x -> x.write(), STATE);
        }
        // Symbol 3 comes in the group of the second code alone.
        Check.due("25: no word for a symbol of other groups", withLength(States.CHOSEN, 3, 0, 1000).write() > 0 ? 1 : 0, 1);
    }

    private static PrefixCodes withLength(int code, int symbol, int length, int free) {
        PrefixCodes x = States.fillBits(rich(), free);
        x.length(code, symbol, length);
        return x;
    }

    private static void readOrder() {
        Twins.dueRefused("26: UNKNOWN, codes", RefusalsTest::rich, x -> x.read(7, 0, 1, 1), UNKNOWN);
        Twins.dueRefused("26: UNKNOWN, size", RefusalsTest::rich, x -> x.read(-1, 1, 0, 1), UNKNOWN);
        Twins.dueRefused("26: UNKNOWN, symbols", RefusalsTest::rich, x -> x.read(6, 2, 1, 1001), UNKNOWN);
        Twins.dueRefused("26: one behind is UNKNOWN, the first is OVER", RefusalsTest::rich,
                x -> x.read(States.OVER, 4, 1, 1), UNKNOWN);
        Twins.dueRefused("26: UNKNOWN, ENDED", RefusalsTest::empty, x -> x.read(6, 2, 1, 1), UNKNOWN);
        // Of more than six codes one may be UNKNOWN, which goes before OUTSIDE; 0 .. 6 are all there are.
        Twins.dueRefused("26: seven that are known", RefusalsTest::rich, x -> x.read(0, 7, 1, 1), OUTSIDE);
        Twins.dueRefused("26: eight, one is UNKNOWN", RefusalsTest::rich, x -> x.read(0, 8, 1, 1), UNKNOWN);
        Twins.dueRefused("26: seven from the second on", RefusalsTest::rich, x -> x.read(1, 7, 1, 1), UNKNOWN);
        for (int first : new int[] {0, 1, 6}) {
            Twins.dueRefused("26: more than can be numbered", RefusalsTest::rich,
                    x -> x.read(first, Integer.MAX_VALUE, 1, 1), UNKNOWN);
            Twins.dueRefused("26: fewer than none", RefusalsTest::rich,
                    x -> x.read(first, Integer.MIN_VALUE, 1, 1), OUTSIDE);
        }
        Twins.dueRefused("26: size, OVER", RefusalsTest::rich, x -> x.read(States.OVER, 1, 101, 1), OUTSIDE);
        Twins.dueRefused("26: codes, NONE", RefusalsTest::rich, x -> x.read(States.NONE, 7, 1, 1), OUTSIDE);
        Twins.dueRefused("26: symbols, NONE", RefusalsTest::rich, x -> x.read(States.NONE, 1, 1, 0), OUTSIDE);
        Twins.dueRefused("26: symbols, ENDED", RefusalsTest::empty, x -> x.read(States.FULL, 1, 1, 0), OUTSIDE);
        Twins.dueRefused("26: codes, ENDED", RefusalsTest::empty, x -> x.read(States.FULL, 0, 1, 1), OUTSIDE);
        Twins.dueRefused("26: OVER, ENDED", RefusalsTest::empty, x -> x.read(States.OVER, 1, 1, 1), STATE);
        Twins.dueRefused("26: NONE, ENDED", RefusalsTest::empty, x -> x.read(States.NONE, 1, 1, 1), STATE);
        Twins.dueRefused("26: NONE, BAD", RefusalsTest::rich, x -> x.read(States.NONE, 1, 1, 1), STATE);
    }

    /** STATE (as take(), any of the codes): though the SELECTORS would tell another one. */
    private static void readAnyOfTheCodes() {
        Twins.Maker zeros = () -> States.rich("0000000000");
        Twins.dueRefused("26: the first is NONE", zeros, x -> x.read(States.NONE, 2, 1, 1), STATE);
        Twins.dueRefused("26: the last is OVER", zeros, x -> x.read(States.FULL, 3, 1, 1), STATE);
        Twins.dueRefused("26: one between is OVER", zeros, x -> x.read(States.SINGLE, 6, 1, 1), STATE);
        Check.due("26: all can be read", zeros.make().read(States.SINGLE, 3, 1, 1), 1);
    }

    private static void dueReadTakes(String what, String bits, int codes, int size, int symbols, int refusal, int taken) {
        Twins.dueTaken("26: " + what, () -> States.rich(bits), x -> x.read(States.SINGLE, codes, size, symbols),
                refusal, taken);
    }

    private static void readTakes() {
        dueReadTakes("no bits", "", 3, 2, 5, ENDED, 0);
        dueReadTakes("SELECTORS end", "0 110", 3, 2, 5, ENDED, 4);
        dueReadTakes("a SELECTOR ends", "0 11", 3, 2, 3, ENDED, 3);
        dueReadTakes("a place that is not below three, with its last 1", "0 111 0", 3, 2, 3, BAD, 4);
        dueReadTakes("a place that is not below two", "11 0", 2, 2, 3, BAD, 2);
        dueReadTakes("a place that is not below one", "1 0", 1, 2, 3, BAD, 1);
        dueReadTakes("words end", "0 0", 3, 2, 3, ENDED, 2);
        dueReadTakes("a word ends", "10 0 0 11", 3, 2, 3, ENDED, 6);
        dueReadTakes("no word begins with it", "0 10 0 1 0", 3, 2, 3, BAD, 5);
        dueReadTakes("no word begins with it, in the last group", "0 0 0 0 1 0", 3, 2, 3, BAD, 5);
        Check.due("26: as many as there are", States.rich("0 10 0 0 10").read(States.SINGLE, 3, 2, 3), 3);
    }
}
