import java.util.Arrays;

/**
 * Promises 17 and 18 at the edges of the three MANNERS: the shortest and the longest runs, the fewest
 * and the most told lengths, the stream's end at every bit, and all that is BAD.
 */
public final class MannersTest {
    private static final int PLAIN = 0, STEPS = 1, RUNS = 2;
    private static final int UNKNOWN = PrefixCodes.UNKNOWN;
    private static final int ENDED = PrefixCodes.ENDED;
    private static final int BAD = PrefixCodes.BAD;

    private static final int[] ORDER = {16, 17, 18, 0, 8, 7, 9, 6, 10, 5, 11, 4, 12, 3, 13, 2, 14, 1, 15};

    public static void main(String[] args) {
        runsOfZeros();
        runsOfZerosBetweenLengths();
        runsOfLengths();
        runsOfLengthsInTwoParts();
        toldLengths();
        readRunOfFewZeros();
        readRunOfManyZeros();
        readRunOfLengths();
        readRunsBehindRuns();
        commandsOfOneKind();
        stepsAtTheEdges();
        stepsAllTheWay();
        stepsWithoutEnd();
        plainOfEachLength();
        codesOfAnyKind();
        endsAtEveryBit();
        mostBitsOfAManner();
        Check.end();
    }

    private static String number(int v, int n) {
        StringBuilder bits = new StringBuilder();
        for (int i = n - 1; i >= 0; i--) {
            bits.append(v >> i & 1);
        }
        return bits.toString();
    }

    /** How many lengths of commands are told, and these; pairs of a command and its length. */
    private static String told(int... pairs) {
        int[] lengths = new int[19];
        for (int i = 0; i < pairs.length; i += 2) {
            lengths[pairs[i]] = pairs[i + 1];
        }
        int many = 4;
        for (int i = 0; i < 19; i++) {
            many = lengths[ORDER[i]] > 0 ? Math.max(many, i + 1) : many;
        }
        StringBuilder bits = new StringBuilder(number(many - 4, 4));
        for (int i = 0; i < many; i++) {
            bits.append(number(lengths[ORDER[i]], 3));
        }
        return bits.toString();
    }

    private static int[] same(int many, int length) {
        int[] lengths = new int[many];
        Arrays.fill(lengths, length);
        return lengths;
    }

    private static int[] joined(int[]... rows) {
        return Arrays.stream(rows).flatMapToInt(Arrays::stream).toArray();
    }

    private static void duePacked(String what, int manner, String bits, int... lengths) {
        PrefixCodes x = new PrefixCodes();
        int code = Check.codeOf(x, lengths);
        String row = bits.replace(" ", "");
        Check.due("17: " + what, x.pack(code, manner), row.length());
        // As numbers, since an object is good for 512 calls and there may be more bits than that.
        for (int from = 0; from < row.length(); from += 30) {
            String part = row.substring(from, Math.min(row.length(), from + 30));
            Check.due("17: " + what + ", from bit " + from, x.takeNumber(part.length()), Integer.parseInt(part, 2));
        }
        Check.due("17: " + what + ", no more bits", x.bits(), 0);
    }

    private static void dueRead(String what, int manner, String bits, int... lengths) {
        PrefixCodes x = new PrefixCodes();
        Check.putBits(x, bits + "101");
        Check.due("18: " + what, x.unpack(lengths.length, manner), 0);
        Check.dueBits("18: " + what + ", what is left", x, "101");
        Check.dueLengths("18: " + what, x, 0, lengths);
    }

    private static void dueBoth(String what, int manner, String bits, int... lengths) {
        duePacked(what, manner, bits, lengths);
        dueRead(what, manner, bits, lengths);
    }

    private static void dueRefused(String what, int symbols, int manner, String bits, int refusal, String left) {
        PrefixCodes x = new PrefixCodes();
        Check.putBits(x, bits);
        Check.due("18: " + what, x.unpack(symbols, manner), refusal);
        Check.dueBits("18: " + what + ", what is left", x, left);
        Check.due("18: " + what + ", no code is made", x.about(0, 0), UNKNOWN);
    }

    // ---- RUNS, packed

    /** Of 11 or more 0s 18, else of 3 or more 17, else the length itself. */
    private static void runsOfZeros() {
        for (int many = 1; many <= 64; many++) {
            String bits = many < 3 ? told(0, 1) + "0".repeat(many)
                    : many < 11 ? told(17, 1) + "0" + number(many - 3, 3)
                    : told(18, 1) + "0" + number(many - 11, 7);
            dueBoth(many + " 0s", RUNS, bits, new int[many]);
        }
    }

    private static void runsOfZerosBetweenLengths() {
        int[] edge = {3};
        dueBoth("two 0s between", RUNS, told(0, 1, 3, 1) + "1 0 0 1", joined(edge, new int[2], edge));
        dueBoth("three 0s between", RUNS, told(3, 1, 17, 1) + "0 1 000 0", joined(edge, new int[3], edge));
        dueBoth("ten 0s between", RUNS, told(3, 1, 17, 1) + "0 1 111 0", joined(edge, new int[10], edge));
        dueBoth("eleven 0s between", RUNS, told(3, 1, 18, 1) + "0 1 0000000 0", joined(edge, new int[11], edge));
        dueBoth("62 0s between", RUNS, told(3, 1, 18, 1) + "0 1 0110011 0", joined(edge, new int[62], edge));
    }

    /** Of 3 or more lengths like the one before them 16, six at most; what is left is fewer than 3, or goes on. */
    private static void runsOfLengths() {
        for (int many = 1; many <= 64; many++) {
            int rest = many - 1;
            StringBuilder commands = new StringBuilder("0");
            boolean any = rest >= 3;
            while (rest > 0) {
                int run = rest >= 3 ? Math.min(6, rest) : 1;
                commands.append(rest >= 3 ? "1" + number(run - 3, 2) : "0");
                rest -= run;
            }
            String bits = (any ? told(5, 1, 16, 1) : told(5, 1)) + commands;
            dueBoth(many + " of 5", RUNS, bits, same(many, 5));
        }
    }

    /** A run is of lengths like the one before: another length begins anew, and 0s are no such run. */
    private static void runsOfLengthsInTwoParts() {
        // The commands 1 16 2 16: 1 and 2 come once, 16 twice.
        dueBoth("two runs", RUNS, told(1, 2, 2, 2, 16, 1) + "10 0 00 11 0 11", joined(same(4, 1), same(7, 2)));
        dueBoth("runs of three alone", RUNS, told(1, 1, 2, 1) + "000 111", joined(same(3, 1), same(3, 2)));
        // Behind three 0s the lengths begin anew: 17, 2, 16.
        dueBoth("behind 0s", RUNS, told(2, 2, 16, 2, 17, 1) + "0 000 10 11 00", joined(new int[3], same(4, 2)));
    }

    /** 4 at least, without those of length 0 at the end: each command alone, as one symbol's length. */
    private static void toldLengths() {
        int[] many = {4, 18, 16, 14, 12, 10, 8, 6, 5, 7, 9, 11, 13, 15, 17, 19};
        for (int length = 0; length <= 15; length++) {
            String bits = told(length, 1) + "0";
            Check.due("17: told lengths", bits.length(), 4 + 3 * many[length] + 1);
            dueBoth("the length " + length + " alone", RUNS, bits, length);
        }
        // More than need be may be told, with 0s at the end.
        dueRead("all 19 told", RUNS, "1111 000 000 000 001" + "000".repeat(15) + "00", 0, 0);
        dueRead("five told", RUNS, "0001 000 000 000 001 000 00", 0, 0);
    }

    // ---- RUNS, read

    private static void readRunOfFewZeros() {
        String just17 = told(17, 1) + "0";
        dueRead("17, the shortest run", RUNS, just17 + "000", new int[3]);
        dueRefused("17, the shortest run, one symbol fewer", 2, RUNS, just17 + "000 1", BAD, "1");
        dueRefused("17, one symbol", 1, RUNS, just17 + "000 1", BAD, "1");
        dueRead("17, the longest run", RUNS, just17 + "111", new int[10]);
        dueRefused("17, the longest run, one symbol fewer", 9, RUNS, just17 + "111 1", BAD, "1");
        dueRefused("17, the longest run, one symbol more", 11, RUNS, just17 + "111", ENDED, "");
        dueRead("17 where 18 could be", RUNS, just17 + "111 0 111", new int[20]);
    }

    private static void readRunOfManyZeros() {
        String just18 = told(18, 1) + "0";
        dueRead("18, the shortest run", RUNS, just18 + "0000000", new int[11]);
        dueRefused("18, the shortest run, one symbol fewer", 10, RUNS, just18 + "0000000 1", BAD, "1");
        dueRead("18, all symbols", RUNS, just18 + "0110101", new int[64]);
        dueRefused("18, one beyond all symbols", 64, RUNS, just18 + "0110110 1", BAD, "1");
        dueRefused("18, the longest run", 64, RUNS, just18 + "1111111 1", BAD, "1");
        dueRefused("18, all symbols, one fewer", 63, RUNS, just18 + "0110101 1", BAD, "1");
    }

    private static void readRunOfLengths() {
        String with16 = told(1, 1, 16, 1);
        dueRead("16, the shortest run", RUNS, with16 + "0 1 00", same(4, 1));
        dueRefused("16, the shortest run, one symbol fewer", 3, RUNS, with16 + "0 1 00 1", BAD, "1");
        dueRead("16, the longest run", RUNS, with16 + "0 1 11", same(7, 1));
        dueRefused("16, the longest run, one symbol fewer", 6, RUNS, with16 + "0 1 11 1", BAD, "1");
        dueRead("16 up to the last of 64", RUNS, with16 + "0" + "1 11".repeat(10) + "1 00", same(64, 1));
        dueRefused("16 beyond the last of 64", 64, RUNS, with16 + "0" + "1 11".repeat(10) + "1 01 1", BAD, "1");
        dueRead("all lengths themselves", RUNS, with16 + "0".repeat(64), same(64, 1));
    }

    /** 16 comes without a length above 0 before it: a run of 17, 18 is 0s; its bits are not taken. */
    private static void readRunsBehindRuns() {
        String all = told(0, 3, 2, 3, 16, 2, 17, 2, 18, 2);
        // The words are 16: 00, 17: 01, 18: 10, 0: 110, 2: 111.
        dueRead("16 behind 16", RUNS, all + "111 00 00 00 01", same(8, 2));
        dueRefused("16 first", 64, RUNS, all + "00 11", BAD, "11");
        dueRefused("16 first, and the end", 64, RUNS, all + "00", BAD, "");
        dueRefused("16 behind a 0", 64, RUNS, all + "111 110 00 11", BAD, "11");
        dueRefused("16 behind 17", 64, RUNS, all + "111 01 000 00 11", BAD, "11");
        dueRefused("16 behind 18", 64, RUNS, all + "111 10 0000000 00 11", BAD, "11");
        dueRefused("16 behind 16 behind 17", 64, RUNS, all + "111 00 00 01 000 00 1", BAD, "1");
        dueRead("a length between", RUNS, all + "01 000 111 00 00", 0, 0, 0, 2, 2, 2, 2);
        dueRefused("16 without a length at the last symbol", 1, RUNS, all + "00 00", BAD, "00");
    }

    /** A code of commands is neither FULL nor SINGLE. */
    private static void commandsOfOneKind() {
        for (int length = 2; length <= 7; length++) {
            dueRefused("one command of " + length + " bits is HOLES", 1, RUNS, told(0, length) + "0", BAD, "0");
        }
        for (int command = 0; command <= 18; command++) {
            dueRefused("SINGLE, and the end", 1, RUNS, told(command, 1), ENDED, "");
            dueRefused("SINGLE, no word comes", 1, RUNS, told(command, 1) + "1 0", BAD, "0");
            dueRefused("HOLES of two", 1, RUNS, told(command, 2, command == 18 ? 0 : 18, 1) + "00", BAD, "00");
        }
        dueRefused("NONE of all 19", 1, RUNS, "1111" + "000".repeat(19) + "0", BAD, "0");
        dueRefused("OVER of all 19", 1, RUNS, "1111" + "001".repeat(19) + "0", BAD, "0");
        dueRefused("OVER by the least", 1, RUNS, told(0, 1, 1, 1, 2, 7) + "0", BAD, "0");
        dueRefused("HOLES by the least", 1, RUNS, told(0, 1, 1, 2, 2, 3, 3, 4, 4, 5, 5, 6, 6, 7) + "0", BAD, "0");
        dueRead("FULL by the least", RUNS, told(0, 1, 1, 2, 2, 3, 3, 4, 4, 5, 5, 6, 6, 7, 7, 7) + "1111111 1111110 0",
                7, 6, 0);
    }

    // ---- STEPS and PLAIN

    private static void stepsAtTheEdges() {
        for (int length = 0; length <= 15; length++) {
            dueBoth("STEPS of " + length + " alone", STEPS, number(length, 4) + "0", length);
            dueRefused("half a step from " + length, 1, STEPS, number(length, 4) + "1", ENDED, "");
        }
        dueRead("STEPS up to 15", STEPS, "1110 10 0", 15);
        dueRefused("STEPS one above 15", 1, STEPS, "1111 10 0", BAD, "0");
        dueRead("STEPS down to 0", STEPS, "0001 11 0", 0);
        dueRefused("STEPS one below 0", 1, STEPS, "0000 11 0", BAD, "0");
        dueRead("STEPS from 15 and back", STEPS, "1111 11 10 0", 15);
        dueRead("STEPS from 0 and back", STEPS, "0000 10 11 0", 0);
        dueRefused("STEPS above 15 at a later symbol", 3, STEPS, "1111 0 11 10 10 0", BAD, "0");
    }

    private static void stepsAllTheWay() {
        StringBuilder bits = new StringBuilder("0000");
        int[] lengths = new int[64];
        for (int symbol = 0; symbol < 64; symbol++) {
            lengths[symbol] = symbol % 2 == 0 ? 0 : 15;
            bits.append(symbol == 0 ? "" : symbol % 2 == 1 ? "10".repeat(15) : "11".repeat(15)).append("0");
        }
        dueBoth("STEPS from end to end", STEPS, bits.toString(), lengths);
    }

    /** A stream full of steps up and down, without the 0 that would end them. */
    private static void stepsWithoutEnd() {
        PrefixCodes x = new PrefixCodes();
        // As PLAIN bits 7 is 0111 and 11 is 1011, a step up and a step down.
        int first = Check.codeOf(x, joined(new int[] {7}, same(63, 11)));
        int next = Check.codeOf(x, same(64, 11));
        x.pack(first, PLAIN);
        for (int i = 1; i < 78; i++) {
            x.pack(next, PLAIN);
        }
        Check.putBits(x, "1011".repeat(8));
        Check.due("18: all bits that fit", x.bits(), 20000);
        Check.due("18: steps without an end", x.unpack(1, STEPS), ENDED);
        Check.due("18: all are taken", x.bits(), 0);
        x.pack(first, PLAIN);
        Check.putBits(x, "0");
        Check.due("18: many steps with an end", x.unpack(1, STEPS), 2);
        Check.due("18: back where they began", x.length(2, 0, 0), 7);
    }

    private static void plainOfEachLength() {
        StringBuilder bits = new StringBuilder();
        int[] lengths = new int[16];
        for (int length = 0; length <= 15; length++) {
            bits.append(number(length, 4));
            lengths[length] = length;
            dueBoth("PLAIN of " + length + " alone", PLAIN, number(length, 4), length);
        }
        dueBoth("PLAIN of each length", PLAIN, bits.toString(), lengths);
        dueBoth("PLAIN of 64", PLAIN, "1111".repeat(64), same(64, 15));
    }

    /** Codes of all kinds are packed and read, those without words and OVER, too. */
    private static void codesOfAnyKind() {
        int[][] lengths = {{0, 0}, {0, 1}, {1, 1}, {2, 2}, {1, 1, 1}};
        for (int kind = 0; kind < 5; kind++) {
            for (int manner = PLAIN; manner <= RUNS; manner++) {
                PrefixCodes x = new PrefixCodes();
                Check.codeOf(x, lengths[kind]);
                Check.due("17: of kind " + kind, x.pack(0, manner), x.bits());
                Check.due("18: of kind " + kind, x.unpack(lengths[kind].length, manner), 1);
                Check.due("18: of kind " + kind, x.about(1, 0), kind);
                Check.dueLengths("17: the code stays", x, 0, lengths[kind]);
                Check.dueLengths("18: of kind " + kind, x, 1, lengths[kind]);
            }
        }
    }

    // ---- the stream's end

    /** Parts with an n are numbers, wanted as a whole; of others bit by bit. */
    private static void endsAtEveryBit() {
        endsAtEveryBit(PLAIN, "n0101 n1111 n0000 n0001", 5, 15, 0, 1);
        endsAtEveryBit(STEPS, "n0011 0 10 10 0 11 0 0 11 11 11 11 0", 3, 5, 4, 4, 0);
        // As told in PackingTest: the words are 0: 00, 16: 01, 18: 10, 2: 110, 5: 111.
        endsAtEveryBit(RUNS, "n1100 n010 n000 n010 n010 n000 n000 n000 n000 n000 n011 n000 n000 n000 n000 n000 n011"
                + " 110 01 n01 10 n0000001 111 00 00", joined(same(5, 2), new int[12], new int[] {5, 0, 0}));
        // 17 alone: 3 0s and 4 0s.
        endsAtEveryBit(RUNS, "n0000 n000 n001 n000 n000 0 n000 0 n001", new int[7]);
    }

    private static void endsAtEveryBit(int manner, String parts, int... lengths) {
        String bits = parts.replace("n", "").replace(" ", "");
        dueRead("as a whole", manner, bits, lengths);
        int start = 0;
        for (String part : parts.split(" ")) {
            boolean isNumber = part.startsWith("n");
            int size = part.length() - (isNumber ? 1 : 0);
            for (int within = 0; within < size; within++) {
                String cut = bits.substring(0, start + within);
                dueRefused("the end behind " + (start + within) + " bits", lengths.length, manner, cut, ENDED,
                        isNumber ? cut.substring(start) : "");
            }
            start += size;
        }
    }

    /** 0 and 15 in turn are the most STEPS: ten times they fit into the stream. */
    private static void mostBitsOfAManner() {
        int[] lengths = new int[64];
        for (int symbol = 0; symbol < 64; symbol++) {
            lengths[symbol] = symbol % 2 == 0 ? 15 : 0;
        }
        PrefixCodes x = new PrefixCodes();
        int code = Check.codeOf(x, lengths);
        Check.due("17: the most STEPS", x.pack(code, STEPS), 4 + 64 + 63 * 30);
        for (int i = 1; i < 10; i++) {
            x.pack(code, STEPS);
        }
        Check.due("17: ten times", x.bits(), 19580);
        Check.due("17: an eleventh time", x.pack(code, STEPS), PrefixCodes.ROOM);
        Check.due("17: nothing is put", x.bits(), 19580);
        for (int i = 1; i <= 10; i++) {
            Check.due("18: a new code", x.unpack(64, STEPS), i);
            Check.due("18: the rest", x.bits(), 19580 - i * 1958);
        }
        Check.dueLengths("18: the tenth", x, 10, lengths);
    }
}
