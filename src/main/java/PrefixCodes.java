import java.util.Arrays;

/**
 * Prefix codes: lengths of least cost under a limit, by packages; codes judged, numbered, read by
 * tables in levels, forwards and backwards; lengths packed in three manners and read again; several
 * codes chosen for the groups of a text by rounds.
 */
public final class PrefixCodes {
    public static final int NONE = -1;
    public static final int UNKNOWN = -101, OUTSIDE = -102, STATE = -103, ENDED = -104, BAD = -105, ROOM = -106;

    private static final int MOST_CODES = 12;
    private static final int MOST_SYMBOLS = 64;
    private static final int MOST_COUNT = 1000000;
    private static final int LONGEST = 15;
    private static final int MOST_BITS = 20000;
    private static final int MOST_NUMBER_BITS = 30;
    private static final int MOST_ROOT = 9;
    private static final int MOST_TEXT = 1000;
    private static final int MOST_CHOSEN = 6;
    private static final int MOST_GROUP_SIZE = 100;
    private static final int MOST_ROUNDS = 8;

    private static final int KIND_NONE = 0, KIND_SINGLE = 1, KIND_FULL = 2, KIND_HOLES = 3, KIND_OVER = 4;

    private final Code[] codes;
    private int codesMade;
    private final int[] counts;
    private final Stream stream;
    private final Packages packages;
    private final Manners manners;
    private final Table lastTable;
    private final Text text;
    private final Choice choice;
    private final Reader reader;

    public PrefixCodes() {
        codes = new Code[MOST_CODES];
        codesMade = 0;
        counts = new int[MOST_SYMBOLS];
        stream = new Stream();
        packages = new Packages();
        manners = new Manners(stream, packages);
        lastTable = new Table();
        text = new Text();
        choice = new Choice();
        reader = new Reader(stream);
    }

    // ---- codes

    public int code(int symbols) {
        if (isOutside(symbols, 1, MOST_SYMBOLS)) {
            return OUTSIDE;
        }
        if (codesMade >= MOST_CODES) {
            return ROOM;
        }
        return keep(new Code(symbols));
    }

    public int length(int code, int symbol, int v) {
        Code known = codeWith(code, symbol);
        if (known == null) {
            return UNKNOWN;
        }
        if (isOutside(v, 0, LONGEST)) {
            return OUTSIDE;
        }
        int had = known.lengths[symbol];
        known.lengths[symbol] = v;
        known.renumber();
        return had;
    }

    public int about(int code, int what) {
        Code known = codeAt(code);
        if (known == null) {
            return UNKNOWN;
        }
        switch (what) {
            case 0:
                return known.kind;
            case 1:
                return known.symbols;
            case 2:
                return known.filled;
            case 3:
                return known.having;
            case 4:
                return known.greatest;
            default:
                return OUTSIDE;
        }
    }

    public int word(int code, int symbol, boolean turned) {
        Code known = codeWith(code, symbol);
        if (known == null) {
            return UNKNOWN;
        }
        if (!known.hasWord(symbol)) {
            return STATE;
        }
        return turned ? known.turnedWord(symbol) : known.words[symbol];
    }

    public int count(int symbol, int v) {
        if (isOutside(symbol, 0, MOST_SYMBOLS - 1) || isOutside(v, 0, MOST_COUNT)) {
            return OUTSIDE;
        }
        int had = counts[symbol];
        counts[symbol] = v;
        return had;
    }

    public int countText() {
        text.tally(counts);
        return countedBelow(MOST_SYMBOLS);
    }

    public int least(int symbols, int limit) {
        if (isOutside(symbols, 1, MOST_SYMBOLS) || isOutside(limit, 1, LONGEST)) {
            return OUTSIDE;
        }
        if (countedBelow(symbols) > 1 << limit) {
            return STATE;
        }
        if (codesMade >= MOST_CODES) {
            return ROOM;
        }
        Code made = new Code(symbols);
        packages.fit(counts, limit, made);
        return keep(made);
    }

    public long cost(int code) {
        Code known = codeAt(code);
        if (known == null) {
            return UNKNOWN;
        }
        long sum = 0;
        for (int symbol = 0; symbol < known.symbols; symbol++) {
            sum += (long) counts[symbol] * known.lengths[symbol];
        }
        return sum;
    }

    // ---- the stream

    public int bits() {
        return stream.size;
    }

    public int bit(int i) throws IndexOutOfBoundsException {
        if (isOutside(i, 0, stream.size - 1)) {
            throw new IndexOutOfBoundsException("there is no such bit");
        }
        return stream.at(i);
    }

    public int clear() {
        int had = stream.size;
        stream.size = 0;
        return had;
    }

    public int putNumber(int v, int n) {
        if (isOutside(n, 1, MOST_NUMBER_BITS)) {
            return OUTSIDE;
        }
        return putBits(v, n);
    }

    public int takeNumber(int n) {
        if (isOutside(n, 1, MOST_NUMBER_BITS)) {
            return OUTSIDE;
        }
        return stream.removeNumber(n);
    }

    public int put(int code, int symbol, boolean back) {
        Code known = codeWith(code, symbol);
        if (known == null) {
            return UNKNOWN;
        }
        if (!known.hasWord(symbol)) {
            return STATE;
        }
        return putBits(back ? known.turnedWord(symbol) : known.words[symbol], known.lengths[symbol]);
    }

    public int take(int code, boolean back) {
        Code known = codeAt(code);
        if (known == null) {
            return UNKNOWN;
        }
        if (!known.canBeRead()) {
            return STATE;
        }
        return known.removeSymbol(stream, back);
    }

    public int pack(int code, int manner) {
        Code known = codeAt(code);
        if (known == null) {
            return UNKNOWN;
        }
        if (isOutside(manner, Manners.PLAIN, Manners.RUNS)) {
            return OUTSIDE;
        }
        stream.begin();
        manners.append(known, manner);
        return stream.settle();
    }

    public int unpack(int symbols, int manner) {
        if (isOutside(symbols, 1, MOST_SYMBOLS) || isOutside(manner, Manners.PLAIN, Manners.RUNS)) {
            return OUTSIDE;
        }
        int had = stream.size;
        int refusal = manners.remove(symbols, manner);
        if (refusal < 0) {
            return refusal;
        }
        // The room is looked at last, since ENDED and BAD go before it and only reading tells them.
        if (codesMade >= MOST_CODES) {
            stream.giveBack(had - stream.size);
            return ROOM;
        }
        Code made = new Code(symbols);
        System.arraycopy(manners.found, 0, made.lengths, 0, symbols);
        made.renumber();
        return keep(made);
    }

    // ---- tables

    public int table(int code, int root) {
        Code known = codeAt(code);
        if (known == null) {
            return UNKNOWN;
        }
        if (isOutside(root, 1, MOST_ROOT)) {
            return OUTSIDE;
        }
        if (known.kind == KIND_OVER) {
            return STATE;
        }
        lastTable.build(known, root);
        return lastTable.entries;
    }

    public int entry(int i, int what) throws IndexOutOfBoundsException {
        if (isOutside(i, 0, lastTable.entries - 1) || isOutside(what, 0, 2)) {
            throw new IndexOutOfBoundsException("there is no such entry, or nothing such to tell of it");
        }
        return lastTable.tell(i, what);
    }

    // ---- texts

    public int add(int a, int b, int c, int d, int e) {
        text.offered[0] = a;
        text.offered[1] = b;
        text.offered[2] = c;
        text.offered[3] = d;
        text.offered[4] = e;
        return text.extend();
    }

    public int forget() {
        int had = text.size;
        text.size = 0;
        return had;
    }

    public int choose(int codes, int size, int limit, int rounds) {
        if (isOutside(codes, 1, MOST_CHOSEN) || isOutside(size, 1, MOST_GROUP_SIZE)
                || isOutside(limit, 1, LONGEST) || isOutside(rounds, 0, MOST_ROUNDS)) {
            return OUTSIDE;
        }
        int different = text.different();
        if (different == 0 || different > 1 << limit) {
            return STATE;
        }
        if (codes > MOST_CODES - codesMade) {
            return ROOM;
        }
        int first = codesMade;
        choice.begin(text, codes, size);
        for (int c = 0; c < codes; c++) {
            Code made = new Code(MOST_SYMBOLS);
            keep(made);
            choice.codes[c] = made;
        }
        choice.settle(packages, limit, rounds);
        return first;
    }

    public int group(int g) {
        if (choice.groups == 0) {
            return STATE;
        }
        if (isOutside(g, 0, choice.groups - 1)) {
            return OUTSIDE;
        }
        return choice.codeOfGroup[g];
    }

    public int write() {
        if (choice.groups == 0 || !choice.canBeWritten()) {
            return STATE;
        }
        stream.begin();
        choice.append(stream);
        return stream.settle();
    }

    public int read(int first, int codes, int size, int symbols) {
        if (codeAt(first) == null || codes > codesMade - first) {
            return UNKNOWN;
        }
        if (isOutside(codes, 1, MOST_CHOSEN) || isOutside(size, 1, MOST_GROUP_SIZE)
                || isOutside(symbols, 1, MOST_TEXT)) {
            return OUTSIDE;
        }
        reader.begin(codes);
        for (int c = 0; c < codes; c++) {
            Code known = codeAt(first + c);
            if (known == null || !known.canBeRead()) {
                return STATE;
            }
            reader.codes[c] = known;
        }
        int refusal = reader.remove(size, symbols);
        if (refusal < 0) {
            return refusal;
        }
        text.become(reader.found, symbols);
        return symbols;
    }

    public int symbol(int i) throws IndexOutOfBoundsException {
        if (isOutside(i, 0, text.size - 1)) {
            throw new IndexOutOfBoundsException("there is no such symbol in the text");
        }
        return text.row[i];
    }

    // ---- what several calls share

    private static boolean isOutside(int number, int lowest, int highest) {
        return number < lowest || number > highest;
    }

    private Code codeAt(int number) {
        return isOutside(number, 0, codesMade - 1) ? null : codes[number];
    }

    private Code codeWith(int number, int symbol) {
        Code known = codeAt(number);
        return known == null || isOutside(symbol, 0, known.symbols - 1) ? null : known;
    }

    private int keep(Code made) {
        if (codesMade >= MOST_CODES) {
            return ROOM;
        }
        codes[codesMade] = made;
        codesMade++;
        return codesMade - 1;
    }

    private int countedBelow(int symbols) {
        int counted = 0;
        for (int symbol = 0; symbol < symbols; symbol++) {
            if (counts[symbol] > 0) {
                counted++;
            }
        }
        return counted;
    }

    private int putBits(int v, int n) {
        if (n > MOST_BITS - stream.size) {
            return ROOM;
        }
        stream.appendNumber(v, n);
        return stream.size;
    }

    /** The row of bits, in a ring: taking from the beginning moves no bit, and can be undone. */
    private static final class Stream {
        private static final int CELL_BITS = 32;

        final int[] cells = new int[MOST_BITS / CELL_BITS];
        int head = 0;
        int size = 0;
        int sizeAtBegin = 0;
        boolean overflowed = false;

        private int placeOf(int i) {
            return (head + i) % MOST_BITS;
        }

        private int bitOf(int place) {
            return cells[place / CELL_BITS] >>> (place % CELL_BITS) & 1;
        }

        int at(int i) {
            return bitOf(placeOf(i));
        }

        /** What is appended from here on goes again in settle() if not all of it finds room. */
        void begin() {
            sizeAtBegin = size;
            overflowed = false;
        }

        int settle() {
            if (overflowed) {
                size = sizeAtBegin;
                return ROOM;
            }
            return size - sizeAtBegin;
        }

        void append(int bit) {
            if (size >= MOST_BITS) {
                overflowed = true;
                return;
            }
            int place = placeOf(size);
            int mask = 1 << (place % CELL_BITS);
            int others = cells[place / CELL_BITS] & ~mask;
            cells[place / CELL_BITS] = bit == 0 ? others : others | mask;
            size++;
        }

        void appendNumber(int v, int n) {
            for (int i = n - 1; i >= 0; i--) {
                append(v >>> i & 1);
            }
        }

        int removeFirst() {
            if (size == 0) {
                return ENDED;
            }
            int bit = bitOf(head);
            head = placeOf(1);
            size--;
            return bit;
        }

        int removeLast() {
            if (size == 0) {
                return ENDED;
            }
            int bit = at(size - 1);
            size--;
            return bit;
        }

        int removeNumber(int n) {
            if (n > size) {
                return ENDED;
            }
            int number = 0;
            for (int i = 0; i < n; i++) {
                number = number << 1 | removeFirst();
            }
            return number;
        }

        void giveBack(int removed) {
            head = placeOf(MOST_BITS - removed);
            size += removed;
        }
    }

    /** A code's lengths and all that follows from them; whoever changes a length calls renumber(). */
    private static final class Code {
        final int symbols;
        final int[] lengths = new int[MOST_SYMBOLS];
        final int[] words = new int[MOST_SYMBOLS];
        final int[] ordered = new int[MOST_SYMBOLS];
        final int[] manyOfLength = new int[LONGEST + 1];
        final int[] firstWord = new int[LONGEST + 1];
        final int[] firstPlace = new int[LONGEST + 1];
        int filled = 0;
        int having = 0;
        int greatest = 0;
        int kind = KIND_NONE;

        Code(int symbols) {
            this.symbols = symbols;
        }

        void renumber() {
            countLengths();
            placeLengths();
            nameSymbols();
            kind = judged();
        }

        private void countLengths() {
            Arrays.fill(manyOfLength, 0);
            for (int symbol = 0; symbol < symbols; symbol++) {
                manyOfLength[lengths[symbol]]++;
            }
        }

        private void placeLengths() {
            filled = 0;
            having = 0;
            greatest = 0;
            int word = 0;
            for (int length = 1; length <= LONGEST; length++) {
                word <<= 1;
                firstWord[length] = word;
                firstPlace[length] = having;
                word += manyOfLength[length];
                having += manyOfLength[length];
                filled += manyOfLength[length] << (LONGEST - length);
                if (manyOfLength[length] > 0) {
                    greatest = length;
                }
            }
        }

        private void nameSymbols() {
            // Counted up again, so that each symbol finds how many of its length stand before it.
            Arrays.fill(manyOfLength, 0);
            for (int symbol = 0; symbol < symbols; symbol++) {
                int length = lengths[symbol];
                if (length > 0) {
                    words[symbol] = firstWord[length] + manyOfLength[length];
                    ordered[firstPlace[length] + manyOfLength[length]] = symbol;
                    manyOfLength[length]++;
                }
            }
        }

        private int judged() {
            if (having == 0) {
                return KIND_NONE;
            }
            if (having == 1 && greatest == 1) {
                return KIND_SINGLE;
            }
            if (filled == 1 << LONGEST) {
                return KIND_FULL;
            }
            return filled < 1 << LONGEST ? KIND_HOLES : KIND_OVER;
        }

        boolean hasWord(int symbol) {
            return kind != KIND_OVER && lengths[symbol] > 0;
        }

        boolean canBeRead() {
            return kind != KIND_OVER && kind != KIND_NONE;
        }

        int turnedWord(int symbol) {
            int turned = 0;
            for (int i = 0; i < lengths[symbol]; i++) {
                turned = turned << 1 | (words[symbol] >>> i & 1);
            }
            return turned;
        }

        int removeSymbol(Stream stream, boolean back) {
            int bits = 0;
            for (int n = 1; n <= LONGEST; n++) {
                int bit = back ? stream.removeLast() : stream.removeFirst();
                if (bit < 0) {
                    return ENDED;
                }
                bits = bits << 1 | bit;
                int place = bits - firstWord[n];
                if (place >= 0 && place < manyOfLength[n]) {
                    return ordered[firstPlace[n] + place];
                }
                // Words fill all numbers of 15 bits below FILLED without a gap, and none above.
                if (bits << (LONGEST - n) >= filled) {
                    return BAD;
                }
            }
            return BAD;
        }
    }

    /** PACKAGES, in rows that are made once. */
    private static final class Packages {
        private static final int MOST_IN_ROW = 2 * MOST_SYMBOLS;

        final int[] ordered = new int[MOST_SYMBOLS];
        final int[] weights = new int[MOST_SYMBOLS];
        int many = 0;
        final long[][] row = new long[2][MOST_IN_ROW];
        final int[] sizes = new int[LONGEST];
        /** 1 where a row has a symbol, 0 where it has a pair: all that the way back asks for. */
        final int[][] isSymbol = new int[LONGEST][MOST_IN_ROW];

        /** The caller has seen that no more symbols are counted than 2^limit. */
        void fit(int[] counts, int limit, Code code) {
            Arrays.fill(code.lengths, 0);
            order(counts, code.symbols);
            if (many == 1) {
                code.lengths[ordered[0]] = 1;
            } else if (many > 1) {
                makeFirstRow();
                for (int r = 1; r < limit; r++) {
                    makeRow(r);
                }
                goBack(limit, code.lengths);
            }
            code.renumber();
        }

        private void order(int[] counts, int symbols) {
            many = 0;
            for (int symbol = 0; symbol < symbols; symbol++) {
                if (counts[symbol] > 0) {
                    insert(symbol, counts[symbol]);
                }
            }
        }

        private void insert(int symbol, int weight) {
            int place = many;
            while (place > 0 && weights[place - 1] > weight) {
                ordered[place] = ordered[place - 1];
                weights[place] = weights[place - 1];
                place--;
            }
            ordered[place] = symbol;
            weights[place] = weight;
            many++;
        }

        private void makeFirstRow() {
            sizes[0] = many;
            for (int i = 0; i < many; i++) {
                row[0][i] = weights[i];
                isSymbol[0][i] = 1;
            }
        }

        private void makeRow(int r) {
            long[] before = row[(r - 1) % 2];
            long[] next = row[r % 2];
            int pairs = sizes[r - 1] / 2;
            int symbol = 0;
            int pair = 0;
            sizes[r] = many + pairs;
            for (int i = 0; i < sizes[r]; i++) {
                long pairWeight = pair < pairs ? before[2 * pair] + before[2 * pair + 1] : 0;
                if (symbol < many && (pair >= pairs || weights[symbol] <= pairWeight)) {
                    next[i] = weights[symbol];
                    isSymbol[r][i] = 1;
                    symbol++;
                } else {
                    next[i] = pairWeight;
                    isSymbol[r][i] = 0;
                    pair++;
                }
            }
        }

        private void goBack(int limit, int[] lengths) {
            int wanted = 2 * many - 2;
            for (int r = limit - 1; r >= 0; r--) {
                int symbols = 0;
                for (int i = 0; i < wanted && i < sizes[r]; i++) {
                    symbols += isSymbol[r][i];
                }
                for (int i = 0; i < symbols; i++) {
                    lengths[ordered[i]]++;
                }
                // Pairs keep their order, so those wanted here are of the first of the row before.
                wanted = 2 * (wanted - symbols);
            }
        }
    }

    /** The three manners in which lengths are packed and read again. */
    private static final class Manners {
        static final int PLAIN = 0, STEPS = 1, RUNS = 2;

        private static final int LENGTH_BITS = 4;

        final Stream stream;
        final Commands commands;
        final int[] found = new int[MOST_SYMBOLS];

        Manners(Stream stream, Packages packages) {
            this.stream = stream;
            this.commands = new Commands(stream, packages);
        }

        void append(Code code, int manner) {
            switch (manner) {
                case PLAIN:
                    appendPlain(code);
                    break;
                case STEPS:
                    appendSteps(code);
                    break;
                default:
                    commands.append(code.lengths, code.symbols);
                    break;
            }
        }

        /** The lengths are in found then; below 0 is a refusal. */
        int remove(int symbols, int manner) {
            switch (manner) {
                case PLAIN:
                    return removePlain(symbols);
                case STEPS:
                    return removeSteps(symbols);
                default:
                    return commands.remove(found, symbols);
            }
        }

        private void appendPlain(Code code) {
            for (int symbol = 0; symbol < code.symbols; symbol++) {
                stream.appendNumber(code.lengths[symbol], LENGTH_BITS);
            }
        }

        private int removePlain(int symbols) {
            for (int symbol = 0; symbol < symbols; symbol++) {
                int length = stream.removeNumber(LENGTH_BITS);
                if (length < 0) {
                    return length;
                }
                found[symbol] = length;
            }
            return symbols;
        }

        private void appendSteps(Code code) {
            int before = code.lengths[0];
            stream.appendNumber(before, LENGTH_BITS);
            for (int symbol = 0; symbol < code.symbols; symbol++) {
                int length = code.lengths[symbol];
                for (int i = before; i < length; i++) {
                    stream.appendNumber(2, 2);
                }
                for (int i = before; i > length; i--) {
                    stream.appendNumber(3, 2);
                }
                stream.append(0);
                before = length;
            }
        }

        private int removeSteps(int symbols) {
            int length = stream.removeNumber(LENGTH_BITS);
            if (length < 0) {
                return length;
            }
            for (int symbol = 0; symbol < symbols; symbol++) {
                length = stepsFrom(length);
                if (length < 0) {
                    return length;
                }
                found[symbol] = length;
            }
            return symbols;
        }

        private int stepsFrom(int before) {
            int length = before;
            // Each turn takes a bit, so that the stream ends before the turns do.
            for (int turn = 0; turn <= MOST_BITS; turn++) {
                int more = stream.removeFirst();
                if (more <= 0) {
                    return more < 0 ? more : length;
                }
                int less = stream.removeFirst();
                if (less < 0) {
                    return less;
                }
                length += less == 0 ? 1 : -1;
                if (isOutside(length, 0, LONGEST)) {
                    return BAD;
                }
            }
            return ENDED;
        }
    }

    /** The commands of the manner RUNS. */
    private static final class Commands {
        private static final int MANY = 19;
        private static final int REPEAT = 16, FEW_ZEROS = 17, MANY_ZEROS = 18;
        private static final int LIMIT = 7;
        private static final int TOLD_AT_LEAST = 4;
        private static final int TOLD_BITS = 4;
        private static final int LENGTH_BITS = 3;
        private static final int[] TELLING_ORDER = {
            16, 17, 18, 0, 8, 7, 9, 6, 10, 5, 11, 4, 12, 3, 13, 2, 14, 1, 15
        };
        // By the command less 16.
        private static final int[] SHORTEST_RUN = {3, 3, 11};
        private static final int[] LONGEST_RUN = {6, 10, 138};
        private static final int[] RUN_BITS = {2, 3, 7};

        final Stream stream;
        final Packages packages;
        final Code code = new Code(MANY);
        final int[] often = new int[MANY];
        final int[] row = new int[MOST_SYMBOLS];
        final int[] runs = new int[MOST_SYMBOLS];
        int size = 0;

        Commands(Stream stream, Packages packages) {
            this.stream = stream;
            this.packages = packages;
        }

        void append(int[] lengths, int symbols) {
            gather(lengths, symbols);
            packages.fit(often, LIMIT, code);
            appendCode();
            for (int i = 0; i < size; i++) {
                int command = row[i];
                stream.appendNumber(code.words[command], code.lengths[command]);
                if (command >= REPEAT) {
                    int kind = command - REPEAT;
                    stream.appendNumber(runs[i] - SHORTEST_RUN[kind], RUN_BITS[kind]);
                }
            }
        }

        private void gather(int[] lengths, int symbols) {
            size = 0;
            Arrays.fill(often, 0);
            for (int at = 0; at < symbols; ) {
                int command = commandAt(lengths, symbols, at);
                int run = 1;
                if (command >= REPEAT) {
                    run = Math.min(runFrom(lengths, symbols, at), LONGEST_RUN[command - REPEAT]);
                }
                row[size] = command;
                runs[size] = run;
                size++;
                often[command]++;
                at += Math.max(run, 1);
            }
        }

        private static int commandAt(int[] lengths, int symbols, int at) {
            int run = runFrom(lengths, symbols, at);
            int length = lengths[at];
            if (length == 0 && run >= SHORTEST_RUN[MANY_ZEROS - REPEAT]) {
                return MANY_ZEROS;
            }
            if (length == 0 && run >= SHORTEST_RUN[FEW_ZEROS - REPEAT]) {
                return FEW_ZEROS;
            }
            boolean likeBefore = at > 0 && lengths[at - 1] == length;
            if (length > 0 && likeBefore && run >= SHORTEST_RUN[0]) {
                return REPEAT;
            }
            return length;
        }

        private static int runFrom(int[] lengths, int symbols, int at) {
            int end = at;
            while (end < symbols && lengths[end] == lengths[at]) {
                end++;
            }
            return end - at;
        }

        private void appendCode() {
            int told = MANY;
            while (told > TOLD_AT_LEAST && code.lengths[TELLING_ORDER[told - 1]] == 0) {
                told--;
            }
            stream.appendNumber(told - TOLD_AT_LEAST, TOLD_BITS);
            for (int i = 0; i < told; i++) {
                stream.appendNumber(code.lengths[TELLING_ORDER[i]], LENGTH_BITS);
            }
        }

        int remove(int[] found, int symbols) {
            int refusal = removeCode();
            if (refusal < 0) {
                return refusal;
            }
            for (int at = 0; at < symbols; ) {
                int run = removeCommand(found, symbols, at);
                if (run < 0) {
                    return run;
                }
                at += Math.max(run, 1);
            }
            return symbols;
        }

        private int removeCode() {
            int more = stream.removeNumber(TOLD_BITS);
            if (more < 0) {
                return more;
            }
            Arrays.fill(code.lengths, 0);
            for (int i = 0; i < more + TOLD_AT_LEAST && i < MANY; i++) {
                int length = stream.removeNumber(LENGTH_BITS);
                if (length < 0) {
                    return length;
                }
                code.lengths[TELLING_ORDER[i]] = length;
            }
            code.renumber();
            return code.kind == KIND_FULL || code.kind == KIND_SINGLE ? MANY : BAD;
        }

        /** How many lengths the command gave from one place on; below 0 is a refusal. */
        private int removeCommand(int[] found, int symbols, int at) {
            int command = code.removeSymbol(stream, false);
            if (command < REPEAT) {
                if (command >= 0) {
                    found[at] = command;
                }
                return command < 0 ? command : 1;
            }
            int length = command == REPEAT && at > 0 ? found[at - 1] : 0;
            if (command == REPEAT && length == 0) {
                return BAD;
            }
            int more = stream.removeNumber(RUN_BITS[command - REPEAT]);
            if (more < 0) {
                return more;
            }
            int run = SHORTEST_RUN[command - REPEAT] + more;
            if (run > symbols - at) {
                return BAD;
            }
            for (int i = at; i < at + run; i++) {
                found[i] = length;
            }
            return run;
        }
    }

    /** A table is kept as its code's words and its parts; each entry is found when it is asked for. */
    private static final class Table {
        private static final int NOTHING = 0, SYMBOL = 1, LINK = 2;

        int root = 0;
        int entries = 0;
        int words = 0;
        final int[] symbols = new int[MOST_SYMBOLS];
        final int[] lengths = new int[MOST_SYMBOLS];
        final int[] numbers = new int[MOST_SYMBOLS];
        int parts = 0;
        final int[] prefixes = new int[MOST_SYMBOLS];
        final int[] partBits = new int[MOST_SYMBOLS];
        final int[] starts = new int[MOST_SYMBOLS];

        void build(Code code, int bits) {
            root = bits;
            words = code.having;
            parts = 0;
            for (int k = 0; k < words; k++) {
                int symbol = code.ordered[k];
                symbols[k] = symbol;
                lengths[k] = code.lengths[symbol];
                numbers[k] = code.words[symbol];
                if (lengths[k] > root) {
                    extendParts(numbers[k] >>> (lengths[k] - root), lengths[k] - root);
                }
            }
            entries = 1 << root;
            for (int p = 0; p < parts; p++) {
                starts[p] = entries;
                entries += 1 << partBits[p];
            }
        }

        private void extendParts(int prefix, int behind) {
            if (parts == 0 || prefixes[parts - 1] != prefix) {
                prefixes[parts] = prefix;
                parts++;
            }
            // Words come from the shortest on, so the last one of a part is its longest.
            partBits[parts - 1] = behind;
        }

        int tell(int i, int what) {
            if (i < 1 << root) {
                int part = partWithPrefix(i);
                if (part >= 0) {
                    return pick(what, LINK, starts[part], partBits[part]);
                }
                return tellWord(wordFor(i, root), what);
            }
            int part = partAround(i);
            if (part < 0) {
                return pick(what, NOTHING, NONE, 0);
            }
            int bits = prefixes[part] << partBits[part] | (i - starts[part]);
            return tellWord(wordFor(bits, root + partBits[part]), what);
        }

        private int tellWord(int k, int what) {
            return k < 0 ? pick(what, NOTHING, NONE, 0) : pick(what, SYMBOL, symbols[k], lengths[k]);
        }

        private static int pick(int what, int kind, int which, int size) {
            if (what == 0) {
                return kind;
            }
            return what == 1 ? which : size;
        }

        private int partWithPrefix(int prefix) {
            for (int p = 0; p < parts; p++) {
                if (prefixes[p] == prefix) {
                    return p;
                }
            }
            return NONE;
        }

        private int partAround(int i) {
            for (int p = 0; p < parts; p++) {
                if (i >= starts[p] && i < starts[p] + (1 << partBits[p])) {
                    return p;
                }
            }
            return NONE;
        }

        /** The place of the word with which n bits begin. */
        private int wordFor(int bits, int n) {
            for (int k = 0; k < words; k++) {
                if (lengths[k] <= n && numbers[k] == bits >>> (n - lengths[k])) {
                    return k;
                }
            }
            return NONE;
        }
    }

    private static final class Text {
        private static final int MOST_OFFERED = 5;

        final int[] row = new int[MOST_TEXT];
        int size = 0;
        final int[] offered = new int[MOST_OFFERED];
        final int[] often = new int[MOST_SYMBOLS];

        /** Takes the offered symbols ahead of the first one below 0. */
        int extend() {
            int many = 0;
            while (many < MOST_OFFERED && offered[many] >= 0) {
                if (offered[many] >= MOST_SYMBOLS) {
                    return OUTSIDE;
                }
                many++;
            }
            if (many > MOST_TEXT - size) {
                return ROOM;
            }
            System.arraycopy(offered, 0, row, size, many);
            size += many;
            return size;
        }

        void become(int[] symbols, int many) {
            System.arraycopy(symbols, 0, row, 0, many);
            size = many;
        }

        void tally(int[] into) {
            Arrays.fill(into, 0);
            for (int i = 0; i < size; i++) {
                into[row[i]]++;
            }
        }

        int different() {
            tally(often);
            int different = 0;
            for (int symbol = 0; symbol < MOST_SYMBOLS; symbol++) {
                if (often[symbol] > 0) {
                    different++;
                }
            }
            return different;
        }
    }

    /** The latest choosing: its text, its groups and its codes. */
    private static final class Choice {
        final int[] text = new int[MOST_TEXT];
        int textSize = 0;
        int groupSize = 1;
        int groups = 0;
        final int[] codeOfGroup = new int[MOST_TEXT];
        final Code[] codes = new Code[MOST_CHOSEN];
        int manyCodes = 0;
        final int[] often = new int[MOST_SYMBOLS];
        final Selectors selectors = new Selectors();

        void begin(Text from, int many, int size) {
            textSize = from.size;
            System.arraycopy(from.row, 0, text, 0, textSize);
            manyCodes = many;
            groupSize = size;
            groups = (textSize + size - 1) / size;
            for (int g = 0; g < groups; g++) {
                codeOfGroup[g] = g * many / groups;
            }
        }

        void settle(Packages packages, int limit, int rounds) {
            for (int round = 0; round < rounds; round++) {
                fitCodes(packages, limit);
                regroup();
            }
            fitCodes(packages, limit);
        }

        private int endOf(int g) {
            return Math.min((g + 1) * groupSize, textSize);
        }

        private void fitCodes(Packages packages, int limit) {
            for (int c = 0; c < manyCodes; c++) {
                countFor(c);
                if (codes[c] != null) {
                    packages.fit(often, limit, codes[c]);
                }
            }
        }

        private void countFor(int c) {
            Arrays.fill(often, 0);
            for (int i = 0; i < textSize; i++) {
                often[text[i]] = 1;
            }
            for (int g = 0; g < groups; g++) {
                if (codeOfGroup[g] == c) {
                    for (int i = g * groupSize; i < endOf(g); i++) {
                        often[text[i]]++;
                    }
                }
            }
        }

        private void regroup() {
            for (int g = 0; g < groups; g++) {
                int best = 0;
                int bestBits = bitsBy(0, g);
                for (int c = 1; c < manyCodes; c++) {
                    int bits = bitsBy(c, g);
                    if (bits < bestBits) {
                        best = c;
                        bestBits = bits;
                    }
                }
                codeOfGroup[g] = best;
            }
        }

        private int bitsBy(int c, int g) {
            Code code = codes[c];
            if (code == null) {
                return 0;
            }
            int bits = 0;
            for (int i = g * groupSize; i < endOf(g); i++) {
                bits += code.lengths[text[i]];
            }
            return bits;
        }

        boolean canBeWritten() {
            for (int g = 0; g < groups; g++) {
                Code code = codes[codeOfGroup[g]];
                for (int i = g * groupSize; i < endOf(g); i++) {
                    if (code == null || !code.hasWord(text[i])) {
                        return false;
                    }
                }
            }
            return true;
        }

        void append(Stream stream) {
            selectors.begin(manyCodes);
            for (int g = 0; g < groups; g++) {
                selectors.append(stream, codeOfGroup[g]);
            }
            for (int g = 0; g < groups; g++) {
                Code code = codes[codeOfGroup[g]];
                for (int i = g * groupSize; i < endOf(g) && code != null; i++) {
                    stream.appendNumber(code.words[text[i]], code.lengths[text[i]]);
                }
            }
        }
    }

    /** The row of codes in which SELECTORS tell places. */
    private static final class Selectors {
        final int[] row = new int[MOST_CHOSEN];
        int many = 0;

        void begin(int codes) {
            many = codes;
            for (int c = 0; c < many; c++) {
                row[c] = c;
            }
        }

        void append(Stream stream, int code) {
            int place = 0;
            while (place < many - 1 && row[place] != code) {
                stream.append(1);
                place++;
            }
            stream.append(0);
            moveAhead(place);
        }

        int remove(Stream stream) {
            for (int place = 0; place < many; place++) {
                int bit = stream.removeFirst();
                if (bit < 0) {
                    return ENDED;
                }
                if (bit == 0) {
                    moveAhead(place);
                    return row[0];
                }
            }
            return BAD;
        }

        private void moveAhead(int place) {
            int code = row[place];
            for (int i = place; i > 0; i--) {
                row[i] = row[i - 1];
            }
            row[0] = code;
        }
    }

    /** Takes a text from the stream into a row of its own, since a refusal leaves THE TEXT as it was. */
    private static final class Reader {
        final Stream stream;
        final Code[] codes = new Code[MOST_CHOSEN];
        final Selectors selectors = new Selectors();
        final int[] codeOfGroup = new int[MOST_TEXT];
        final int[] found = new int[MOST_TEXT];

        Reader(Stream stream) {
            this.stream = stream;
        }

        void begin(int many) {
            selectors.begin(many);
        }

        int remove(int size, int symbols) {
            int groups = (symbols + size - 1) / size;
            for (int g = 0; g < groups; g++) {
                int code = selectors.remove(stream);
                if (code < 0) {
                    return code;
                }
                codeOfGroup[g] = code;
            }
            for (int i = 0; i < symbols; i++) {
                Code code = codes[codeOfGroup[i / size]];
                int symbol = code == null ? BAD : code.removeSymbol(stream, false);
                if (symbol < 0) {
                    return symbol;
                }
                found[i] = symbol;
            }
            return symbols;
        }
    }
}
