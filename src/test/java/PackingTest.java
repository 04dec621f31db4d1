import java.util.Arrays;

/** Promises 17 and 18: pack and unpack, in the manners PLAIN, STEPS and RUNS. */
public final class PackingTest {
    private static final int PLAIN = 0, STEPS = 1, RUNS = 2;
    private static final int UNKNOWN = PrefixCodes.UNKNOWN;
    private static final int OUTSIDE = PrefixCodes.OUTSIDE;
    private static final int ENDED = PrefixCodes.ENDED;
    private static final int BAD = PrefixCodes.BAD;
    private static final int ROOM = PrefixCodes.ROOM;

    // How many are told, and the lengths of 16 17 18 0 (each of them 0 to 3) at the least.
    private static final String JUST_ZERO = "0000 000 000 000 001";
    private static final String JUST_18 = "0000 000 000 001 000";
    private static final String ALL_FOUR = "0000 010 010 010 010";
    // Of these the words are 0: 00, 16: 01, 17: 10, 18: 11.

    public static void main(String[] args) {
        packPlain();
        packSteps();
        packRuns();
        packRunsOfZeros();
        packRunsOfLengths();
        packRunsWithLongWords();
        packRefused();
        packWithoutRoom();
        unpackPlain();
        unpackSteps();
        unpackStepsBad();
        unpackRuns();
        unpackRunsBad();
        unpackRunsEnded();
        unpackCommandCode();
        unpackRefused();
        unpackWithoutRoom();
        allMannersAgain();
        Check.end();
    }

    private static void duePacked(String what, int manner, String bits, int... lengths) {
        PrefixCodes x = new PrefixCodes();
        x.putNumber(1, 1);
        int code = Check.codeOf(x, lengths);
        Check.due("17: " + what + ", how many", x.pack(code, manner), bits.replace(" ", "").length());
        Check.dueBits("17: " + what, x, "1" + bits);
        x.takeNumber(1);
        Check.due("18: " + what + ", a new code", x.unpack(lengths.length, manner), 1);
        Check.due("18: " + what + ", all is taken", x.bits(), 0);
        Check.dueLengths("18: " + what, x, 1, lengths);
    }

    private static void packPlain() {
        duePacked("PLAIN", PLAIN, "0000 1111 0001 1000", 0, 15, 1, 8);
        duePacked("PLAIN of one", PLAIN, "0101", 5);
    }

    private static void packSteps() {
        duePacked("STEPS", STEPS, "0011 0 0 10 0 11 11 0", 3, 3, 4, 2);
        duePacked("STEPS of one", STEPS, "1111 0", 15);
        duePacked("STEPS of OVER", STEPS, "0001 0 0 0", 1, 1, 1);
        duePacked("STEPS all the way", STEPS,
                "0000 0 " + "10".repeat(15) + "0" + "11".repeat(15) + "0", 0, 15, 0);
    }

    private static void packRuns() {
        // Words 0: 00, 16: 01, 18: 10, 2: 110, 5: 111; 16 lengths are told, of 2 the last.
        String code = "1100 010 000 010 010 000 000 000 000 000 011 000 000 000 000 000 011";
        duePacked("RUNS", RUNS, code + "110 01 01 10 0000001 111 00 00",
                2, 2, 2, 2, 2, 0, 0, 0, 0, 0, 0, 0, 0, 0, 0, 0, 0, 5, 0, 0);
        duePacked("RUNS of one 0", RUNS, JUST_ZERO + "0", 0);
        duePacked("RUNS of two 0s", RUNS, JUST_ZERO + "0 0", 0, 0);
        // All 19 lengths are told if the last in their order has one.
        duePacked("RUNS of one 15", RUNS, "1111" + "000".repeat(18) + "001" + "0", 15);
    }

    private static void packRunsOfZeros() {
        String just17 = "0000 000 001 000 000";
        duePacked("three 0s", RUNS, just17 + "0 000", new int[3]);
        duePacked("ten 0s", RUNS, just17 + "0 111", new int[10]);
        duePacked("eleven 0s", RUNS, JUST_18 + "0 0000000", new int[11]);
        duePacked("64 0s", RUNS, JUST_18 + "0 0110101", new int[64]);
    }

    private static void packRunsOfLengths() {
        // 4 alone: 12 lengths are told (16 17 18 0 8 7 9 6 10 5 11 4).
        String just4 = "1000" + "000".repeat(11) + "001";
        duePacked("three of 4", RUNS, just4 + "0 0 0", 4, 4, 4);
        // 4 and 16, once each: 4 has 0, 16 has 1.
        String once = "1000 001" + "000".repeat(10) + "001";
        duePacked("four of 4", RUNS, once + "0 1 00", 4, 4, 4, 4);
        duePacked("seven of 4", RUNS, once + "0 1 11", 4, 4, 4, 4, 4, 4, 4);
        duePacked("eight of 4", RUNS, once + "0 1 11 0", 4, 4, 4, 4, 4, 4, 4, 4);
        duePacked("ten of 4", RUNS, once + "0 1 11 1 00", 4, 4, 4, 4, 4, 4, 4, 4, 4, 4);
        // 0, 16 and 4: 4 and 16 come once, 0 twice.
        String three = "1000 010 000 000 001" + "000".repeat(7) + "010";
        duePacked("0s ahead of 4s", RUNS, three + "0 0 10 11 00", 0, 0, 4, 4, 4, 4);
    }

    /** The commands 1 to 8 come 18 11 7 4 3 1 1 1 times, never four alike in a row: 6 and 7 get seven bits. */
    private static void packRunsWithLongWords() {
        int[] often = {0, 18, 11, 7, 4, 3, 1, 1, 1};
        int[] lengths = new int[46];
        int size = 0;
        while (size < lengths.length) {
            for (int length = 1; length <= 8; length++) {
                if (often[length] > 0) {
                    often[length]--;
                    lengths[size++] = length;
                    // The most frequent ones go between the others, so that none is left over at the end.
                    if (length > 1 && often[1] > 0 && often[1] * 2 > lengths.length - size) {
                        often[1]--;
                        lengths[size++] = 1;
                    }
                }
            }
        }
        PrefixCodes x = new PrefixCodes();
        int code = Check.codeOf(x, lengths);
        int words = 18 * 1 + 11 * 2 + 7 * 3 + 4 * 4 + 3 * 5 + 6 + 7 + 7;
        Check.due("17: words up to the limit", x.pack(code, RUNS), 4 + 18 * 3 + words);
        Check.due("17: 18 lengths are told", x.takeNumber(4), 14);
        int[] told = {0, 0, 0, 0, 6, 7, 0, 7, 0, 5, 0, 4, 0, 3, 0, 2, 0, 1};
        for (int i = 0; i < told.length; i++) {
            Check.due("17: the limit is 7, told length " + i, x.takeNumber(3), told[i]);
        }
    }

    private static void packRefused() {
        PrefixCodes x = new PrefixCodes();
        x.code(2);
        Check.due("17: manner 3", x.pack(0, 3), OUTSIDE);
        Check.due("17: manner -1", x.pack(0, -1), OUTSIDE);
        Check.due("17: no such code", x.pack(1, 0), UNKNOWN);
        Check.due("17: code -1", x.pack(-1, 0), UNKNOWN);
        Check.due("17: UNKNOWN goes before OUTSIDE", x.pack(1, 3), UNKNOWN);
        Check.due("17: refused, nothing is put", x.bits(), 0);
    }

    private static void packWithoutRoom() {
        PrefixCodes x = new PrefixCodes();
        x.code(64);
        x.code(16);
        for (int i = 0; i < 78; i++) {
            Check.due("17: how many, not how many there are", x.pack(0, PLAIN), 256);
        }
        Check.due("17: 32 bits are free", x.pack(0, PLAIN), ROOM);
        Check.due("17: STEPS without room", x.pack(0, STEPS), ROOM);
        Check.due("17: nothing is put", x.bits(), 19968);
        Check.due("17: RUNS have room", x.pack(0, RUNS), 24);
        Check.due("17: RUNS have room no more", x.pack(0, RUNS), ROOM);
        Check.due("17: nothing is put by RUNS", x.bits(), 19992);
        x.takeNumber(12);
        Check.due("17: just the room", x.pack(1, STEPS), 20);
        Check.due("17: it is full", x.bits(), 20000);
        Check.due("17: full", x.pack(1, STEPS), ROOM);
        Check.due("17: OUTSIDE goes before ROOM", x.pack(1, 3), OUTSIDE);
    }

    private static void dueUnpacked(String what, int manner, String bits, String left, int... lengths) {
        PrefixCodes x = new PrefixCodes();
        Check.putBits(x, bits);
        Check.due("18: " + what, x.unpack(lengths.length, manner), 0);
        Check.dueBits("18: " + what + ", what is left", x, left);
        Check.dueLengths("18: " + what, x, 0, lengths);
    }

    private static void dueRefused(String what, int symbols, int manner, String bits, int refusal, String left) {
        PrefixCodes x = new PrefixCodes();
        Check.putBits(x, bits);
        Check.due("18: " + what, x.unpack(symbols, manner), refusal);
        Check.dueBits("18: " + what + ", what is left", x, left);
        Check.due("18: " + what + ", no code is made", x.about(0, 0), UNKNOWN);
    }

    private static void unpackPlain() {
        dueUnpacked("PLAIN", PLAIN, "0001 1111 0000 1", "1", 1, 15, 0);
        dueRefused("PLAIN of no bits", 1, PLAIN, "", ENDED, "");
        dueRefused("PLAIN, a number is wanted as a whole", 3, PLAIN, "0001 1111 000", ENDED, "000");
    }

    private static void unpackSteps() {
        dueUnpacked("STEPS at symbol 0, too", STEPS, "0001 10 10 0 0 11 10 11 0 1", "1", 3, 3, 2);
        dueUnpacked("STEPS to the edges", STEPS, "0001 11 0 " + "10".repeat(15) + "0", "", 0, 15);
        dueRefused("STEPS, the first number", 1, STEPS, "001", ENDED, "001");
        dueRefused("STEPS without any", 1, STEPS, "0011", ENDED, "");
        dueRefused("STEPS, half a step", 1, STEPS, "0011 1", ENDED, "");
        dueRefused("STEPS, without a 0", 1, STEPS, "0011 10 11", ENDED, "");
        dueRefused("STEPS, one symbol more", 2, STEPS, "0011 10 0", ENDED, "");
    }

    private static void unpackStepsBad() {
        dueRefused("STEPS below 0", 2, STEPS, "0001 11 11 0101", BAD, "0101");
        dueRefused("STEPS above 15", 1, STEPS, "1111 10 11 0", BAD, "110");
        dueRefused("STEPS above 15 at the end", 1, STEPS, "1111 10", BAD, "");
        dueRefused("STEPS below 0 further on", 3, STEPS, "0001 0 11 0 11 0", BAD, "0");
    }

    private static void unpackRuns() {
        // 17 has its least run of 3, 18 of 11, and behind 0s a length comes first.
        dueUnpacked("RUNS of 0s", RUNS, ALL_FOUR + "10 010 00 11 0000001 01", "01",
                new int[5 + 1 + 12]);
        // 1 (17 lengths are told 3 bits each, of 1 the last but one), 16 and 0.
        String code = "1110 010 000 000 010" + "000".repeat(13) + "001";
        dueUnpacked("RUNS of lengths", RUNS, code + "0 11 00 10 0 11 01", "",
                1, 1, 1, 1, 0, 1, 1, 1, 1, 1);
        dueUnpacked("RUNS may end short of what could be", RUNS, code + "0 0 11 00 10", "10",
                1, 1, 1, 1, 1);
        dueUnpacked("RUNS of 0s by their length", RUNS, code + "10 10 10 10", "",
                0, 0, 0, 0);
    }

    private static void unpackRunsBad() {
        dueRefused("16 comes first", 20, RUNS, ALL_FOUR + "01 11 0", BAD, "110");
        dueRefused("16 behind a 0", 20, RUNS, ALL_FOUR + "00 01 11", BAD, "11");
        dueRefused("16 behind 17", 20, RUNS, ALL_FOUR + "10 000 01 1", BAD, "1");
        dueRefused("16 behind 18", 20, RUNS, ALL_FOUR + "11 0000000 01", BAD, "");
        String with1 = "1110 010 010 000 000" + "000".repeat(13) + "001";
        dueRefused("16 behind a length and a run of 0s", 20, RUNS, with1 + "0 11 000 10 11", BAD, "11");
        dueRefused("a run beyond the last symbol, 17", 3, RUNS, ALL_FOUR + "10 001 1", BAD, "1");
        dueRefused("a run beyond the last symbol, 18", 11, RUNS, ALL_FOUR + "11 0000001 1", BAD, "1");
        dueRefused("the longest run", 64, RUNS, ALL_FOUR + "11 1111111 1", BAD, "1");
        dueRefused("a run beyond the last symbol, 16", 3, RUNS, with1 + "0 10 00 1", BAD, "1");
        dueUnpacked("a run up to the last symbol", RUNS, ALL_FOUR + "10 000 1", "1", 0, 0, 0);
        dueRefused("no word comes", 5, RUNS, JUST_ZERO + "0 0 1 0", BAD, "0");
    }

    private static void unpackRunsEnded() {
        dueRefused("how many are told", 5, RUNS, "000", ENDED, "000");
        dueRefused("lengths of commands", 5, RUNS, "0000 001 000 00", ENDED, "00");
        dueRefused("the last length of a command", 5, RUNS, "0000 001 000 000", ENDED, "");
        dueRefused("a word, all is taken", 5, RUNS, ALL_FOUR + "1", ENDED, "");
        dueRefused("no command at all", 5, RUNS, ALL_FOUR, ENDED, "");
        dueRefused("bits of 17", 5, RUNS, ALL_FOUR + "10 00", ENDED, "00");
        dueRefused("bits of 18", 5, RUNS, ALL_FOUR + "11 000000", ENDED, "000000");
        String with1 = "1110 010 010 000 000" + "000".repeat(13) + "001";
        dueRefused("bits of 16", 5, RUNS, with1 + "0 10 0", ENDED, "0");
        dueRefused("one symbol more", 3, RUNS, JUST_ZERO + "0 0", ENDED, "");
    }

    private static void unpackCommandCode() {
        dueRefused("commands NONE", 1, RUNS, "0000 000 000 000 000 11", BAD, "11");
        dueRefused("commands HOLES", 1, RUNS, "0000 010 010 010 000 00", BAD, "00");
        dueRefused("commands OVER", 1, RUNS, "0000 001 001 000 001 0", BAD, "0");
        dueRefused("one command of two bits", 1, RUNS, "0000 000 000 000 010 00", BAD, "00");
        dueUnpacked("commands FULL", RUNS, "0000 001 000 000 001 0", "", 0);
        dueUnpacked("commands SINGLE", RUNS, JUST_ZERO + "0 1", "1", 0);
        dueUnpacked("words of seven bits", RUNS, "1111 001 000 010 011 100 101 110 111 111" + "000".repeat(10)
                + "1111110 110 1111111 1110", "", 6, 0, 10, 8);
    }

    private static void unpackRefused() {
        PrefixCodes x = new PrefixCodes();
        Check.putBits(x, "0000 0000 0000");
        Check.due("18: symbols 0", x.unpack(0, 0), OUTSIDE);
        Check.due("18: symbols 65", x.unpack(65, 0), OUTSIDE);
        Check.due("18: the least number", x.unpack(Integer.MIN_VALUE, 0), OUTSIDE);
        Check.due("18: manner -1", x.unpack(1, -1), OUTSIDE);
        Check.due("18: manner 3", x.unpack(1, 3), OUTSIDE);
        Check.due("18: refused, nothing is taken", x.bits(), 12);
        Check.due("18: OUTSIDE goes before ENDED", x.unpack(64, 3), OUTSIDE);
    }

    private static void unpackWithoutRoom() {
        PrefixCodes x = new PrefixCodes();
        for (int i = 0; i < 12; i++) {
            x.code(1);
        }
        String[] packed = {"0011", "0011 10 11 0", JUST_ZERO + "0"};
        for (int manner = PLAIN; manner <= RUNS; manner++) {
            x.clear();
            Check.putBits(x, packed[manner] + "1");
            Check.due("18: ROOM", x.unpack(1, manner), ROOM);
            Check.dueBits("18: ROOM, nothing is taken", x, packed[manner] + "1");
        }
        x.clear();
        Check.putBits(x, "0011 001");
        Check.due("18: ENDED goes before ROOM", x.unpack(2, PLAIN), ENDED);
        Check.dueBits("18: ENDED, what is taken stays taken", x, "001");
        x.clear();
        Check.putBits(x, "1111 10 0");
        Check.due("18: BAD goes before ROOM", x.unpack(1, STEPS), BAD);
        Check.dueBits("18: BAD, what is taken stays taken", x, "0");
        Check.due("18: OUTSIDE goes before ROOM", x.unpack(0, PLAIN), OUTSIDE);
    }

    private static void allMannersAgain() {
        int[] lengths = new int[64];
        for (int symbol = 0; symbol < 64; symbol++) {
            lengths[symbol] = symbol % 16;
        }
        int[] falling = new int[64];
        Arrays.fill(falling, 0, 40, 15);
        Arrays.fill(falling, 42, 50, 3);
        for (int manner = PLAIN; manner <= RUNS; manner++) {
            PrefixCodes x = new PrefixCodes();
            Check.codeOf(x, lengths);
            Check.codeOf(x, falling);
            x.pack(0, manner);
            x.pack(1, manner);
            int first = x.unpack(64, manner);
            int second = x.unpack(64, manner);
            Check.due("18: all is taken", x.bits(), 0);
            Check.dueLengths("18: all lengths, manner " + manner, x, first, lengths);
            Check.dueLengths("18: long runs, manner " + manner, x, second, falling);
        }
    }
}
