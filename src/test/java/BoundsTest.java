/**
 * Of each number that a call takes, or that the object holds: the last that is still allowed and the
 * first that is not, on both sides; and that behind the refusal nothing has changed.
 */
public final class BoundsTest {
    private static final int UNKNOWN = PrefixCodes.UNKNOWN;
    private static final int OUTSIDE = PrefixCodes.OUTSIDE;
    private static final int STATE = PrefixCodes.STATE;
    private static final int ENDED = PrefixCodes.ENDED;
    private static final int ROOM = PrefixCodes.ROOM;

    private interface On {
        long with(PrefixCodes x, int v);
    }

    public static void main(String[] args) {
        code();
        codesInAll();
        length();
        about();
        word();
        count();
        least();
        leastSymbolsUnderLimit();
        cost();
        bit();
        putNumber();
        putNumberRoom();
        takeNumber();
        takeNumberEnded();
        put();
        putRoom();
        take();
        takeEnded();
        pack();
        packRoom();
        unpack();
        unpackRoom();
        table();
        entry();
        add();
        addRoom();
        choose();
        chooseSymbolsUnderLimit();
        chooseRoom();
        group();
        writeRoom();
        readFirst();
        readCodes();
        readSizeAndSymbols();
        symbol();
        Check.end();
    }

    /** Both ends of what is allowed answer this; beyond them all is refused. */
    private static void edges(String what, Twins.Maker maker, On call, int refusal,
            int lowest, long atLowest, int highest, long atHighest) {
        Check.due(what + " " + lowest, call.with(maker.make(), lowest), atLowest);
        Check.due(what + " " + highest, call.with(maker.make(), highest), atHighest);
        for (int wrong : new int[] {lowest - 1, highest + 1, Integer.MIN_VALUE, Integer.MAX_VALUE}) {
            Twins.dueRefused(what + " " + wrong, maker, x -> call.with(x, wrong), refusal);
        }
    }

    private static void edgesThrown(String what, Twins.Maker maker, On call,
            int lowest, long atLowest, int highest, long atHighest) {
        Check.due(what + " " + lowest, call.with(maker.make(), lowest), atLowest);
        Check.due(what + " " + highest, call.with(maker.make(), highest), atHighest);
        for (int wrong : new int[] {lowest - 1, highest + 1, Integer.MIN_VALUE, Integer.MAX_VALUE}) {
            Twins.dueThrown(what + " " + wrong, maker, x -> call.with(x, wrong));
        }
    }

    private static PrefixCodes rich() {
        return States.rich("1011");
    }

    private static PrefixCodes withCodes(int many, int... lengths) {
        PrefixCodes x = new PrefixCodes();
        for (int code = 0; code < many; code++) {
            Check.codeOf(x, lengths);
        }
        return x;
    }

    /** So many symbols, from 0 on, have this count. */
    private static PrefixCodes withCounts(int many, int count) {
        PrefixCodes x = new PrefixCodes();
        for (int symbol = 0; symbol < many; symbol++) {
            x.count(symbol, count);
        }
        return x;
    }

    private static int[] ladder() {
        int[] lengths = new int[16];
        for (int symbol = 0; symbol < 15; symbol++) {
            lengths[symbol] = symbol + 1;
        }
        lengths[15] = 15;
        return lengths;
    }

    // ---- codes

    private static void code() {
        edges("2: symbols", BoundsTest::rich, (x, v) -> x.code(v), OUTSIDE, 1, 7, 64, 7);
        PrefixCodes x = new PrefixCodes();
        Check.due("2: one symbol", x.about(x.code(1), 1), 1);
        Check.due("2: 64 symbols", x.about(x.code(64), 1), 64);
    }

    /** CODES: 12 at most, by whatever call they are made. */
    private static void codesInAll() {
        Twins.Maker oneFree = () -> States.fillCodes(rich(), 1);
        Twins.Maker noneFree = () -> States.fillCodes(rich(), 0);
        Twins.Act[] calls = {x -> x.code(64), x -> x.least(64, 15), x -> x.unpack(1, 0), x -> x.choose(1, 3, 15, 8)};
        String[] names = {"2: code", "8: least", "18: unpack", "23: choose"};
        for (int i = 0; i < calls.length; i++) {
            Check.due(names[i] + " makes the twelfth", calls[i].on(oneFree.make()), 11);
            Twins.dueRefused(names[i] + " makes no thirteenth", noneFree, calls[i], ROOM);
        }
    }

    private static void length() {
        edges("3: code", BoundsTest::rich, (x, v) -> x.length(v, 0, 1), UNKNOWN, 0, 0, 6, 2);
        edges("3: symbol of 4", BoundsTest::rich, (x, v) -> x.length(States.FULL, v, 1), UNKNOWN, 0, 2, 3, 3);
        edges("3: symbol of 64", BoundsTest::rich, (x, v) -> x.length(States.CHOSEN, v, 1), UNKNOWN, 0, 2, 63, 0);
        edges("3: symbol of 1", () -> States.fillCodes(rich(), 0), (x, v) -> x.length(11, v, 1), UNKNOWN, 0, 0, 0, 0);
        edges("3: length", BoundsTest::rich, (x, v) -> x.length(States.FULL, 0, v), OUTSIDE, 0, 2, 15, 2);
        for (int edge : new int[] {0, 15}) {
            PrefixCodes x = rich();
            x.length(States.FULL, 0, edge);
            Check.due("3: it is there", x.length(States.FULL, 0, 7), edge);
        }
        Twins.dueRefused("3: of an object without codes", PrefixCodes::new, x -> x.length(0, 0, 0), UNKNOWN);
    }

    private static void about() {
        edges("4: code", BoundsTest::rich, (x, v) -> x.about(v, 1), UNKNOWN, 0, 3, 6, 64);
        edges("4: what", BoundsTest::rich, (x, v) -> x.about(States.HOLES, v), OUTSIDE, 0, 3, 4, 3);
        for (int what = 0; what < 5; what++) {
            Check.due("4: of an object without codes", new PrefixCodes().about(0, what), UNKNOWN);
        }
    }

    private static void word() {
        for (boolean turned : new boolean[] {false, true}) {
            // Code 0 has no words: it is known, though.
            edges("5: code", BoundsTest::rich, (x, v) -> x.word(v, 0, turned), UNKNOWN, 0, STATE, 6, 0);
            edges("5: symbol", BoundsTest::rich, (x, v) -> x.word(States.FULL, v, turned), UNKNOWN,
                    0, turned ? 1 : 2, 3, 7);
            edges("5: symbol of 64", BoundsTest::rich, (x, v) -> x.word(States.CHOSEN, v, turned), UNKNOWN,
                    0, turned ? 1 : 2, 63, STATE);
        }
    }

    private static void count() {
        edges("6: symbol", BoundsTest::rich, (x, v) -> x.count(v, 9), OUTSIDE, 0, 5, 63, 0);
        edges("6: count", BoundsTest::rich, (x, v) -> x.count(0, v), OUTSIDE, 0, 5, 1000000, 5);
        for (int edge : new int[] {0, 1000000}) {
            PrefixCodes x = rich();
            x.count(63, edge);
            Check.due("6: it is there", x.count(63, 7), edge);
        }
    }

    private static void least() {
        edges("8: symbols", BoundsTest::rich, (x, v) -> x.least(v, 15), OUTSIDE, 1, 7, 64, 7);
        edges("8: limit", BoundsTest::rich, (x, v) -> x.least(2, v), OUTSIDE, 1, 7, 15, 7);
        PrefixCodes x = withCounts(64, 1);
        Check.due("8: one symbol of 64", x.about(x.least(1, 1), 1), 1);
        Check.due("8: all 64", x.about(x.least(64, 6), 3), 64);
    }

    /** STATE: more of these symbols have a count above 0 than 2^limit. */
    private static void leastSymbolsUnderLimit() {
        for (int limit = 1; limit <= 5; limit++) {
            int most = 1 << limit;
            int under = limit;
            Twins.Maker all = () -> withCounts(64, 1000000);
            PrefixCodes x = all.make();
            Check.due("8: 2^" + limit + " symbols", x.least(most, limit), 0);
            Check.due("8: 2^" + limit + " symbols are FULL", x.about(0, 0), 2);
            Check.due("8: 2^" + limit + " symbols, each of the limit", x.about(0, 4), limit);
            Twins.dueRefused("8: one symbol more than 2^" + limit, all, y -> y.least(most + 1, under), STATE);
            x.count(most, 0);
            Check.due("8: one symbol more, but not counted", x.least(most + 1, limit), 1);
        }
        Check.due("8: 64 symbols, limit 6", withCounts(64, 1).least(64, 6), 0);
        Twins.dueRefused("8: 64 symbols, limit 5", () -> withCounts(64, 1), x -> x.least(64, 5), STATE);
        Check.due("8: 64 symbols of 1 that is asked for, limit 1", withCounts(64, 1).least(1, 1), 0);
    }

    private static void cost() {
        edges("9: code", BoundsTest::rich, (x, v) -> x.cost(v), UNKNOWN, 0, 0, 6, 2000014);
        Check.due("9: of an object without codes", new PrefixCodes().cost(0), UNKNOWN);
    }

    // ---- the stream

    private static void bit() {
        edgesThrown("11: bit", BoundsTest::rich, (x, v) -> x.bit(v), 0, 1, 3, 1);
        edgesThrown("11: the only bit", () -> States.rich("1"), (x, v) -> x.bit(v), 0, 1, 0, 1);
        Twins.dueThrown("11: no bits", () -> States.rich(""), x -> x.bit(0));
        PrefixCodes full = States.fillBits(States.rich("0"), 1);
        full.putNumber(1, 1);
        Check.due("11: the first of all that fit", full.bit(0), 0);
        Check.due("11: the last of all that fit", full.bit(19999), 1);
        Check.dueOutOfBounds("11: beyond all that fit", () -> full.bit(20000));
    }

    private static void putNumber() {
        edges("13: bits of a number", BoundsTest::rich, (x, v) -> x.putNumber(-1, v), OUTSIDE, 1, 5, 30, 34);
        for (int v : new int[] {0, -1, 1, Integer.MIN_VALUE, Integer.MAX_VALUE}) {
            PrefixCodes x = new PrefixCodes();
            Check.due("13: any number, 30 bits of " + v, x.putNumber(v, 30), 30);
            Check.due("13: any number, 30 bits of " + v, x.takeNumber(30), v & (1 << 30) - 1);
            Check.due("13: any number, 1 bit of " + v, x.putNumber(v, 1), 1);
            Check.due("13: any number, 1 bit of " + v, x.takeNumber(1), v & 1);
        }
    }

    /** THE STREAM: 20000 at most. */
    private static void putNumberRoom() {
        for (int free : new int[] {0, 1, 15, 29}) {
            Twins.Maker maker = () -> States.fillBits(rich(), free);
            Twins.dueRefused("13: one bit more than is free", maker, x -> x.putNumber(-1, free + 1), ROOM);
            if (free > 0) {
                Check.due("13: all that is free", maker.make().putNumber(-1, free), 20000);
            }
        }
        Check.due("13: 30 bits are free", States.fillBits(rich(), 30).putNumber(-1, 30), 20000);
    }

    private static void takeNumber() {
        edges("14: bits of a number", () -> States.rich("1".repeat(30)), (x, v) -> x.takeNumber(v), OUTSIDE,
                1, 1, 30, (1 << 30) - 1);
    }

    /** ENDED (nothing is taken). */
    private static void takeNumberEnded() {
        for (int bits : new int[] {0, 1, 15, 29}) {
            Twins.Maker maker = () -> States.rich("1".repeat(bits));
            Twins.dueRefused("14: one bit more than there is", maker, x -> x.takeNumber(bits + 1), ENDED);
            if (bits > 0) {
                PrefixCodes x = maker.make();
                Check.due("14: all bits that there are", x.takeNumber(bits), (1 << bits) - 1);
                Check.due("14: none is left", x.bits(), 0);
            }
        }
    }

    private static void put() {
        for (boolean back : new boolean[] {false, true}) {
            edges("15: code", BoundsTest::rich, (x, v) -> x.put(v, 0, back), UNKNOWN, 0, STATE, 6, 6);
            edges("15: symbol", BoundsTest::rich, (x, v) -> x.put(States.FULL, v, back), UNKNOWN, 0, 6, 3, 7);
            edges("15: symbol of 64", BoundsTest::rich, (x, v) -> x.put(States.CHOSEN, v, back), UNKNOWN,
                    0, 6, 63, STATE);
        }
    }

    private static void putRoom() {
        int[] ladder = ladder();
        for (boolean back : new boolean[] {false, true}) {
            for (int symbol : new int[] {0, 1, 13, 15}) {
                Check.due("15: just the room for a word of " + ladder[symbol],
                        States.fillBits(withCodes(1, ladder), ladder[symbol]).put(0, symbol, back), 20000);
                Twins.dueRefused("15: one bit too few for a word of " + ladder[symbol],
                        () -> States.fillBits(withCodes(1, ladder), ladder[symbol] - 1),
                        x -> x.put(0, symbol, back), ROOM);
            }
        }
    }

    private static void take() {
        for (boolean back : new boolean[] {false, true}) {
            edges("16: code", BoundsTest::rich, (x, v) -> x.take(v, back), UNKNOWN, 0, STATE, 6, back ? 3 : 2);
        }
    }

    /** ENDED: the bits end within words, all are taken. */
    private static void takeEnded() {
        int[] ladder = ladder();
        for (int bits = 1; bits <= 14; bits++) {
            PrefixCodes x = withCodes(1, ladder);
            String ones = "1".repeat(bits);
            Check.putBits(x, ones + "0");
            Check.due("16: a word of " + (bits + 1), x.take(0, false), bits);
            Check.due("16: no bit is left", x.bits(), 0);
            for (boolean back : new boolean[] {false, true}) {
                Twins.dueAlike("16: one bit too few for a word of " + (bits + 1), () -> States.rich(ones),
                        y -> y.take(longestOf(y), back), ENDED, () -> {
                            PrefixCodes y = States.rich("");
                            longestOf(y);
                            return y;
                        });
            }
        }
    }

    private static int longestOf(PrefixCodes x) {
        return Check.codeOf(x, ladder());
    }

    private static void pack() {
        edges("17: code", BoundsTest::rich, (x, v) -> x.pack(v, 0), UNKNOWN, 0, 12, 6, 256);
        // RUNS of 2 1 3 3: 18 lengths are told, up to that of 1; the words have 2 2 1 1 bits.
        edges("17: manner", BoundsTest::rich, (x, v) -> x.pack(States.FULL, v), OUTSIDE, 0, 16, 2, 4 + 54 + 6);
    }

    private static void packRoom() {
        for (int manner = 0; manner < 3; manner++) {
            int by = manner;
            int bits = rich().pack(States.FULL, manner);
            Check.due("17: just the room, manner " + manner, States.fillBits(rich(), bits).pack(States.FULL, by), bits);
            Twins.dueRefused("17: one bit too few, manner " + manner, () -> States.fillBits(rich(), bits - 1),
                    x -> x.pack(States.FULL, by), ROOM);
            Twins.dueRefused("17: no bit is free, manner " + manner, () -> States.fillBits(rich(), 0),
                    x -> x.pack(States.FULL, by), ROOM);
        }
    }

    private static void unpack() {
        edges("18: symbols", () -> States.rich("0".repeat(256)), (x, v) -> x.unpack(v, 0), OUTSIDE, 1, 7, 64, 7);
        edges("18: manner", () -> States.rich("0000 000 000 000 001 0"), (x, v) -> x.unpack(1, v), OUTSIDE,
                0, 7, 2, 7);
    }

    /** ROOM (nothing is taken then). */
    private static void unpackRoom() {
        String[] packed = {"0101", "0011 10 10 11 0", "0000 000 000 001 000 0 0000000"};
        int[] symbols = {1, 1, 11};
        for (int manner = 0; manner < 3; manner++) {
            int by = manner;
            Check.due("18: one code is free", States.fillCodes(States.rich(packed[by]), 1).unpack(symbols[by], by), 11);
            Twins.dueRefused("18: no code is free", () -> States.fillCodes(States.rich(packed[by] + "10"), 0),
                    x -> x.unpack(symbols[by], by), ROOM);
            Twins.dueRefused("18: no code is free, the stream is full",
                    () -> States.fillBits(States.fillCodes(States.rich(packed[by]), 0), 0),
                    x -> x.unpack(symbols[by], by), ROOM);
        }
    }

    // ---- tables

    private static void table() {
        edges("19: code", BoundsTest::rich, (x, v) -> x.table(v, 1), UNKNOWN, 0, 2, 6, 6);
        edges("19: root", BoundsTest::rich, (x, v) -> x.table(States.FULL, v), OUTSIDE, 1, 6, 9, 512);
    }

    private static void entry() {
        edgesThrown("20: entry", BoundsTest::rich, (x, v) -> x.entry(v, 0), 0, 1, 5, 1);
        edgesThrown("20: what", BoundsTest::rich, (x, v) -> x.entry(3, v), 0, 2, 2, 1);
        for (int what = 0; what < 3; what++) {
            int of = what;
            Twins.dueThrown("20: no table", PrefixCodes::new, x -> x.entry(0, of));
        }
        PrefixCodes x = rich();
        Check.due("20: a greater table", x.table(States.FULL, 9), 512);
        Check.due("20: the last of 512", x.entry(511, 1), 3);
        Check.dueOutOfBounds("20: behind the last of 512", () -> x.entry(512, 1));
        Check.due("20: a smaller table then", x.table(States.NONE, 1), 2);
        Check.due("20: the last of 2", x.entry(1, 1), PrefixCodes.NONE);
        Check.dueOutOfBounds("20: an entry of the greater table", () -> x.entry(2, 0));
    }

    // ---- texts

    private static PrefixCodes added(int place, int v) {
        PrefixCodes x = rich();
        addAt(x, place, v);
        return x;
    }

    /** Five symbols 9, one of which is another. */
    private static long addAt(PrefixCodes x, int place, int v) {
        int[] five = {9, 9, 9, 9, 9};
        five[place] = v;
        return x.add(five[0], five[1], five[2], five[3], five[4]);
    }

    private static void add() {
        for (int place = 0; place < 5; place++) {
            int at = place;
            Check.due("21: 0 is a symbol", addAt(rich(), place, 0), 13);
            Check.due("21: 63 is a symbol", addAt(rich(), place, 63), 13);
            Check.due("21: it is there", added(place, 63).symbol(8 + place), 63);
            Check.due("21: -1 is none, nor what is behind", addAt(rich(), place, -1), 8 + place);
            Check.due("21: the least number is none", addAt(rich(), place, Integer.MIN_VALUE), 8 + place);
            for (int wrong : new int[] {64, Integer.MAX_VALUE}) {
                Twins.dueRefused("21: above 63 at " + place, BoundsTest::rich, x -> addAt(x, at, wrong), OUTSIDE);
            }
        }
        Twins.dueAlike("21: nothing at all", BoundsTest::rich, x -> x.add(-1, 64, 1, 1, 1), 8, BoundsTest::rich);
    }

    /** THE TEXT: 1000 at most. */
    private static void addRoom() {
        int[] row = {1, 2, 3, 4, 5};
        for (int free = 0; free <= 4; free++) {
            int left = free;
            Twins.dueRefused("21: one more than is free", () -> States.fillText(rich(), left),
                    x -> x.add(row[0], left < 1 ? -1 : row[1], left < 2 ? -1 : row[2], left < 3 ? -1 : row[3],
                            left < 4 ? -1 : row[4]), ROOM);
            Check.due("21: as many as are free", States.fillText(rich(), left).add(left < 1 ? -1 : row[0],
                    left < 2 ? -1 : row[1], left < 3 ? -1 : row[2], left < 4 ? -1 : row[3], -1), 1000);
        }
        Check.due("21: five are free", States.fillText(rich(), 5).add(1, 2, 3, 4, 5), 1000);
    }

    private static void choose() {
        Twins.Maker maker = () -> {
            PrefixCodes x = new PrefixCodes();
            Check.addText(x, States.TEXT);
            return x;
        };
        edges("23: codes", BoundsTest::richWithSixFree, (x, v) -> x.choose(v, 3, 15, 1), OUTSIDE, 1, 6, 6, 6);
        edges("23: size", maker, (x, v) -> x.choose(2, v, 15, 1), OUTSIDE, 1, 0, 100, 0);
        edges("23: limit", BoundsTest::richWithTwoSymbols, (x, v) -> x.choose(2, 3, v, 1), OUTSIDE, 1, 7, 15, 7);
        edges("23: rounds", BoundsTest::rich, (x, v) -> x.choose(2, 3, 15, v), OUTSIDE, 0, 7, 8, 7);
    }

    private static PrefixCodes richWithSixFree() {
        PrefixCodes x = withCodes(4, 1, 2, 3, 3);
        Check.addText(x, States.TEXT);
        x.choose(2, 3, 15, 1);
        return x;
    }

    private static PrefixCodes richWithTwoSymbols() {
        PrefixCodes x = rich();
        x.forget();
        Check.addText(x, 63, 0, 63, 63);
        return x;
    }

    /** STATE (the text is empty, or has more different symbols than 2^limit). */
    private static void chooseSymbolsUnderLimit() {
        for (int limit = 1; limit <= 5; limit++) {
            int under = limit;
            PrefixCodes x = new PrefixCodes();
            for (int symbol = 0; symbol < 1 << limit; symbol++) {
                x.add(symbol, symbol, -1, -1, -1);
            }
            Check.due("23: 2^" + limit + " symbols", x.choose(1, 100, limit, 1), 0);
            Check.due("23: each of them of the limit", x.about(0, 4), limit);
            Twins.dueRefused("23: one symbol more than 2^" + limit, () -> {
                PrefixCodes y = rich();
                y.forget();
                for (int symbol = 0; symbol <= 1 << under; symbol++) {
                    y.add(63 - symbol, -1, -1, -1, -1);
                }
                return y;
            }, y -> y.choose(1, 100, under, 1), STATE);
        }
        PrefixCodes all = new PrefixCodes();
        for (int symbol = 0; symbol < 64; symbol++) {
            all.add(symbol, -1, -1, -1, -1);
        }
        Check.due("23: 64 symbols, limit 5", all.choose(1, 100, 5, 1), STATE);
        Check.due("23: 64 symbols, limit 6", all.choose(1, 100, 6, 1), 0);
        Twins.dueRefused("23: the text is empty again", () -> {
            PrefixCodes y = rich();
            y.forget();
            return y;
        }, y -> y.choose(1, 1, 15, 0), STATE);
        Twins.dueRefused("23: the text is empty", PrefixCodes::new, y -> y.choose(6, 100, 15, 8), STATE);
        PrefixCodes one = new PrefixCodes();
        one.add(0, -1, -1, -1, -1);
        Check.due("23: a text of one symbol", one.choose(6, 100, 1, 8), 0);
    }

    private static void chooseRoom() {
        for (int free = 0; free <= 5; free++) {
            int left = free;
            Twins.dueRefused("23: one code more than is free", () -> States.fillCodes(richWithSixFree(), left),
                    x -> x.choose(left + 1, 3, 15, 8), ROOM);
            if (free > 0) {
                Check.due("23: as many as are free",
                        States.fillCodes(richWithSixFree(), left).choose(left, 3, 15, 8), 12 - left);
            }
        }
        Check.due("23: six are free", richWithSixFree().choose(6, 3, 15, 8), 6);
    }

    private static void group() {
        edges("24: group", BoundsTest::rich, (x, v) -> x.group(v), OUTSIDE, 0, 0, 2, 1);
        Twins.Maker most = () -> {
            PrefixCodes x = States.fillText(new PrefixCodes(), 0);
            x.choose(6, 1, 15, 0);
            return x;
        };
        Check.due("24: the last of 1000", most.make().group(999), 5);
        Check.due("24: behind the last of 1000", most.make().group(1000), OUTSIDE);
    }

    private static void writeRoom() {
        int bits = rich().write();
        Check.due("25: just the room", States.fillBits(rich(), bits).write(), bits);
        Twins.dueRefused("25: one bit too few", () -> States.fillBits(rich(), bits - 1), x -> x.write(), ROOM);
        Twins.dueRefused("25: no bit is free", () -> States.fillBits(rich(), 0), x -> x.write(), ROOM);
    }

    private static PrefixCodes readable() {
        PrefixCodes x = withCodes(8, 1, 1);
        Check.addText(x, States.TEXT);
        x.choose(1, 3, 15, 1);
        Check.putBits(x, "0".repeat(60));
        return x;
    }

    private static void readFirst() {
        edges("26: the first code", BoundsTest::readable, (x, v) -> x.read(v, 1, 1, 1), UNKNOWN, 0, 1, 8, 1);
        Check.due("26: two codes, the second is the last", readable().read(7, 2, 1, 1), 1);
        Twins.dueRefused("26: two codes, the second is none", BoundsTest::readable, x -> x.read(8, 2, 1, 1), UNKNOWN);
        Check.due("26: six codes, the sixth is the last", readable().read(3, 6, 1, 1), 1);
        Twins.dueRefused("26: six codes, the sixth is none", BoundsTest::readable, x -> x.read(4, 6, 1, 1), UNKNOWN);
        Twins.dueRefused("26: no codes at all", PrefixCodes::new, x -> x.read(0, 1, 1, 1), UNKNOWN);
    }

    private static void readCodes() {
        Check.due("26: one code", readable().read(0, 1, 1, 1), 1);
        Check.due("26: six codes", readable().read(0, 6, 1, 1), 1);
        for (int wrong : new int[] {0, -1, 7, Integer.MIN_VALUE}) {
            Twins.dueRefused("26: codes " + wrong, BoundsTest::readable, x -> x.read(0, wrong, 1, 1), OUTSIDE);
        }
    }

    private static void readSizeAndSymbols() {
        edges("26: size", BoundsTest::readable, (x, v) -> x.read(0, 2, v, 3), OUTSIDE, 1, 3, 100, 3);
        // A thousand words of one bit, and 10 SELECTORS.
        Twins.Maker maker = () -> {
            PrefixCodes x = withCodes(1, 1, 1);
            x.code(64);
            for (int i = 0; i < 4; i++) {
                x.pack(1, 0);
            }
            return x;
        };
        edges("26: symbols", maker, (x, v) -> x.read(0, 1, 100, v), OUTSIDE, 1, 1, 1000, 1000);
        PrefixCodes x = maker.make();
        x.read(0, 1, 100, 1000);
        Check.due("26: a thousand are taken", x.bits(), 1024 - 1010);
        Check.due("26: a thousand are the text", x.forget(), 1000);
    }

    private static void symbol() {
        edgesThrown("27: symbol", BoundsTest::rich, (x, v) -> x.symbol(v), 0, 0, 7, 3);
        Twins.dueThrown("27: no text", PrefixCodes::new, x -> x.symbol(0));
        edgesThrown("27: symbol of all that fit", () -> States.fillText(rich(), 0), (x, v) -> x.symbol(v),
                0, 0, 999, States.fillText(rich(), 0).symbol(999));
        Check.due("27: the last of all that fit", States.fillText(new PrefixCodes(), 0).symbol(999), 63);
    }
}
