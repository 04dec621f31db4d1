import java.util.Arrays;

/**
 * The edges that "Terms" names for texts: groups of which the last one perhaps has fewer symbols,
 * the codes that groups have at first and behind rounds, SELECTORS, and what is read by them.
 */
public final class GroupsTest {
    private static final int OUTSIDE = PrefixCodes.OUTSIDE;
    private static final int STATE = PrefixCodes.STATE;
    private static final int ENDED = PrefixCodes.ENDED;
    private static final int BAD = PrefixCodes.BAD;

    public static void main(String[] args) {
        howManyGroups();
        groupsAtFirst();
        groupsAtFirstOfTheLongestText();
        moreCodesThanGroups();
        oneSymbolAlone();
        noRounds();
        everyRound();
        madeOnceMore();
        theFirstGroupMoves();
        symbolsThatComeOnce();
        theFirstOfSeveral();
        theTextAsItWas();
        theLatestChoosing();
        codesAsTheyAreNow();
        everyPlace();
        placesMove();
        placesRead();
        placesBeyond();
        howManySelectors();
        theLastGroupOfRead();
        theTextOfRead();
        mostAtOnce();
        Check.end();
    }

    private static PrefixCodes withText(int... text) {
        PrefixCodes x = new PrefixCodes();
        Check.addText(x, text);
        return x;
    }

    private static int[] many(int size, int symbol) {
        int[] text = new int[size];
        Arrays.fill(text, symbol);
        return text;
    }

    private static int[] of64(int... lengths) {
        return Arrays.copyOf(lengths, 64);
    }

    private static void dueManyGroups(String what, PrefixCodes x, int groups) {
        Check.due(what + ": the last group", x.group(groups - 1) >= 0 ? 1 : 0, 1);
        Check.due(what + ": behind the last group", x.group(groups), OUTSIDE);
    }

    // ---- groups

    /** So many symbols each, the last one perhaps fewer. */
    private static void howManyGroups() {
        for (int size = 1; size <= 7; size++) {
            for (int text = 1; text <= 22; text++) {
                PrefixCodes x = withText(many(text, 5));
                x.choose(1, size, 15, 1);
                int groups = text / size + (text % size > 0 ? 1 : 0);
                dueManyGroups("24: " + text + " symbols by " + size, x, groups);
                // One code: a 0 for each group, and a word of one bit for each symbol.
                Check.due("25: " + text + " symbols by " + size, x.write(), groups + text);
            }
        }
        int[][] edges = {{100, 99, 1}, {100, 100, 1}, {100, 101, 2}, {100, 199, 2}, {100, 200, 2}, {100, 201, 3},
            {99, 99, 1}, {99, 100, 2}, {1, 300, 300}};
        for (int[] edge : edges) {
            PrefixCodes x = withText(many(edge[1], 0));
            x.choose(6, edge[0], 1, 8);
            dueManyGroups("24: " + edge[1] + " symbols by " + edge[0], x, edge[2]);
        }
    }

    /** Group g of all G has the code g times t / G, rounded down. */
    private static void groupsAtFirst() {
        for (int codes = 1; codes <= 6; codes++) {
            for (int groups = 1; groups <= 20; groups++) {
                PrefixCodes x = withText(many(groups, 9));
                x.choose(codes, 1, 15, 0);
                for (int g = 0; g < groups; g++) {
                    int due = 0;
                    while ((due + 1) * groups <= g * codes) {
                        due++;
                    }
                    Check.due("24: group " + g + " of " + groups + ", " + codes + " codes", x.group(g), due);
                }
            }
        }
    }

    private static void groupsAtFirstOfTheLongestText() {
        PrefixCodes x = States.fillText(new PrefixCodes(), 0);
        x.choose(6, 1, 15, 0);
        int[] firsts = {0, 167, 334, 500, 667, 834};
        for (int code = 0; code < 6; code++) {
            Check.due("24: the first of code " + code, x.group(firsts[code]), code);
            if (code > 0) {
                Check.due("24: the one before it", x.group(firsts[code] - 1), code - 1);
            }
        }
        Check.due("24: the last of a thousand", x.group(999), 5);
        Check.due("24: behind the last of a thousand", x.group(1000), OUTSIDE);
    }

    /** The codes without groups have each symbol of the text once. */
    private static void moreCodesThanGroups() {
        PrefixCodes x = withText(7, 7, 7, 8, 9);
        Check.due("23: six codes for one group", x.choose(6, 100, 15, 0), 0);
        Check.dueGroups("24: six codes for one group", x, 0);
        int[] often = new int[64];
        often[7] = 1;
        often[8] = 2;
        often[9] = 2;
        Check.dueLengths("23: the code of the group", x, 0, often);
        int[] once = new int[64];
        once[7] = 2;
        once[8] = 2;
        once[9] = 1;
        for (int code = 1; code < 6; code++) {
            Check.dueLengths("23: a code without groups", x, code, once);
        }
    }

    private static void oneSymbolAlone() {
        for (int symbol : new int[] {0, 63}) {
            PrefixCodes x = withText(symbol);
            Check.due("23: a text of one symbol", x.choose(1, 1, 1, 8), 0);
            Check.due("4: it is SINGLE", x.about(0, 0), 1);
            Check.due("25: a SELECTOR and a word", x.write(), 2);
            Check.dueBits("25: a SELECTOR and a word", x, "00");
            x.forget();
            Check.due("26: it is read", x.read(0, 1, 1, 1), 1);
            Check.dueText("26: it is read", x, symbol);
        }
    }

    // ---- rounds

    /** Two groups: 0 0 0 1 2 and 1 1 1 0 2. */
    private static void noRounds() {
        PrefixCodes x = withText(0, 0, 0, 1, 2, 1, 1, 1, 0, 2);
        x.choose(2, 5, 15, 0);
        Check.dueGroups("24: as at first", x, 0, 1);
        Check.dueLengths("23: lengths by the first groups", x, 0, of64(1, 2, 2));
        Check.dueLengths("23: lengths by the first groups", x, 1, of64(2, 1, 2));
    }

    /** Each number of rounds by a text that needs several until nothing changes; held against the Model. */
    private static void everyRound() {
        int[] text = new int[120];
        for (int i = 0; i < text.length; i++) {
            text[i] = i * i * 7 % 23 % (2 + i / 15);
        }
        String before = "";
        int changes = 0;
        for (int rounds = 0; rounds <= 8; rounds++) {
            PrefixCodes x = withText(text);
            Model model = new Model();
            for (int symbol : text) {
                model.add(symbol, -1, -1, -1, -1);
            }
            x.choose(4, 3, 15, rounds);
            model.choose(4, 3, 15, rounds);
            StringBuilder groups = new StringBuilder();
            for (int g = 0; g < 40; g++) {
                Check.due("24: " + rounds + " rounds, group " + g, x.group(g), model.group(g));
                groups.append(x.group(g));
            }
            for (int code = 0; code < 4; code++) {
                for (int symbol = 0; symbol < 10; symbol++) {
                    Check.due("23: " + rounds + " rounds, a length", x.length(code, symbol, 1),
                            model.length(code, symbol, 1));
                }
            }
            changes += groups.toString().equals(before) ? 0 : 1;
            before = groups.toString();
        }
        if (changes < 4) {
            Check.tell("the text of everyRound() needs too few rounds: " + changes);
        }
    }

    /** Behind the last round lengths are made once more by the groups as they are then. */
    private static void madeOnceMore() {
        PrefixCodes x = withText(0, 0, 1, 1, 2, 2, 0, 0, 1, 1, 2, 2);
        x.choose(3, 2, 15, 1);
        Check.dueGroups("24: behind one round", x, 0, 0, 1, 0, 0, 1);
        // Code 2 had 1 1 2 2 at first, and has no group then.
        Check.dueLengths("23: by no group", x, 2, of64(2, 2, 1));
        Check.dueLengths("23: by four groups", x, 0, of64(2, 1, 2));
    }

    /** In each round every group gets a code, the first one, too; a later choosing begins anew. */
    private static void theFirstGroupMoves() {
        PrefixCodes x = withText(4, 4, 5, 5, 5, 5, 4, 4, 4, 4, 6, 6);
        // At first code 0 has the lengths 2 1 2 of 4 5 6, code 1 has 1 2 2.
        x.choose(2, 2, 15, 1);
        Check.dueGroups("24: the first group gets another code", x, 1, 0, 0, 1, 1, 0);
        x.choose(2, 2, 15, 0);
        Check.dueGroups("24: as at first again", x, 0, 0, 0, 1, 1, 1);
    }

    /** The count of a symbol that is in the text is 1 where it is in no group of the code: the first and the last. */
    private static void symbolsThatComeOnce() {
        PrefixCodes x = withText(9, 1, 1, 1, 1, 8);
        x.choose(2, 3, 15, 0);
        int[] first = new int[64];
        first[1] = 1;
        first[8] = 2;
        first[9] = 2;
        Check.dueLengths("23: the code of the first group", x, 0, first);
        Check.dueLengths("23: the code of the last group", x, 1, first);
        PrefixCodes y = withText(9, 9, 1, 8);
        y.choose(2, 2, 15, 0);
        // The counts of 1 8 9 are 1 1 3 by the first group, and 2 2 1 by the last.
        int[] heads = new int[64];
        heads[1] = 2;
        heads[8] = 2;
        heads[9] = 1;
        Check.dueLengths("23: the first group's symbols come more often", y, 0, heads);
        int[] tails = new int[64];
        tails[1] = 2;
        tails[8] = 1;
        tails[9] = 2;
        Check.dueLengths("23: the last group's symbols come more often", y, 1, tails);
    }

    private static void theFirstOfSeveral() {
        PrefixCodes x = withText(3, 3, 3, 3, 3, 3);
        x.choose(6, 1, 15, 1);
        Check.dueGroups("24: all codes are alike", x, 0, 0, 0, 0, 0, 0);
    }

    // ---- what is kept

    /** THE TEXT as it was then: what becomes of it later is of no account. */
    private static void theTextAsItWas() {
        PrefixCodes x = withText(1, 1, 2, 1, 1);
        x.choose(1, 2, 15, 1);
        Check.due("25: as chosen", x.write(), 3 + 5);
        String bits = Check.bitsOf(x);
        x.clear();
        x.add(2, 2, 2, 2, 2);
        x.write();
        Check.dueBits("25: behind add()", x, bits);
        x.forget();
        x.clear();
        x.write();
        Check.dueBits("25: behind forget()", x, bits);
        x.add(9, 8, 7, -1, -1);
        x.clear();
        x.write();
        Check.dueBits("25: behind another text", x, bits);
        Check.due("26: read, in one group", x.read(0, 1, 100, 3), 3);
        x.clear();
        x.write();
        Check.dueBits("25: behind read()", x, bits);
        // Two SELECTORS too few are wanted: they are taken for words.
        Check.dueText("26: the text that was read", x, 1, 1, 1);
        dueManyGroups("24: behind read()", x, 3);
    }

    private static void theLatestChoosing() {
        PrefixCodes x = withText(1, 1, 2, 1, 1);
        x.choose(1, 1, 15, 1);
        dueManyGroups("24: the first choosing", x, 5);
        x.choose(1, 100, 15, 1);
        dueManyGroups("24: the next, of fewer groups", x, 1);
        Check.due("24: a group of the first", x.group(4), OUTSIDE);
        x.forget();
        Check.due("23: refused", x.choose(1, 1, 15, 1), STATE);
        dueManyGroups("24: a refused one is none", x, 1);
        x.add(4, 4, -1, -1, -1);
        x.choose(2, 1, 15, 0);
        Check.dueGroups("24: the third", x, 0, 1);
        Check.due("25: the third", x.write(), 1 + 2 + 2);
    }

    private static void codesAsTheyAreNow() {
        PrefixCodes x = withText(0, 1);
        x.choose(1, 100, 15, 1);
        Check.due("25: of one bit each", x.write(), 3);
        x.length(0, 0, 15);
        x.length(0, 1, 15);
        Check.due("25: of fifteen bits each", x.write(), 31);
        x.length(0, 63, 1);
        Check.due("25: HOLES, and another word ahead", x.write(), 31);
        x.clear();
        x.write();
        Check.dueBits("25: the words as they are now", x, "0 100000000000000 100000000000001");
        x.length(0, 0, 1);
        x.length(0, 1, 1);
        Check.due("25: OVER", x.write(), STATE);
        x.length(0, 63, 0);
        Check.due("25: FULL again", x.write(), 3);
        x.length(0, 1, 0);
        Check.due("25: no word for a symbol", x.write(), STATE);
        x.length(0, 0, 0);
        Check.due("25: no words", x.write(), STATE);
    }

    // ---- SELECTORS

    /** Six groups have the codes 0 to 5: the places are 0 to 5. */
    private static void everyPlace() {
        String[] places = {"0", "10", "110", "1110", "11110", "111110"};
        StringBuilder selectors = new StringBuilder();
        for (int codes = 1; codes <= 6; codes++) {
            PrefixCodes x = withText(many(codes, 40));
            x.choose(codes, 1, 15, 0);
            selectors.append(places[codes - 1]);
            Check.due("25: places up to " + (codes - 1), x.write(), selectors.length() + codes);
            Check.dueBits("25: places up to " + (codes - 1), x, selectors + "0".repeat(codes));
            x.forget();
            Check.due("26: places up to " + (codes - 1), x.read(0, codes, 1, codes), codes);
            Check.dueText("26: places up to " + (codes - 1), x, many(codes, 40));
        }
    }

    /** The code that was told goes to the row's beginning. */
    private static void placesMove() {
        PrefixCodes x = new PrefixCodes();
        // Each code has one word, 0, of another symbol: what is read tells the codes.
        for (int code = 0; code < 6; code++) {
            int[] lengths = new int[6];
            lengths[code] = 1;
            Check.codeOf(x, lengths);
        }
        // The last place each time: 5 4 3 2 1 0 5; then the first again, then the second.
        Check.putBits(x, "111110".repeat(7) + "0" + "10" + "0".repeat(9));
        Check.due("26: places", x.read(0, 6, 1, 9), 9);
        Check.dueText("26: places", x, 5, 4, 3, 2, 1, 0, 5, 5, 0);
        Check.putBits(x, "1110 10 1110 110" + "0".repeat(4));
        Check.due("26: more places", x.read(0, 6, 1, 4), 4);
        Check.dueText("26: more places", x, 3, 0, 2, 3);
        Check.putBits(x, "10 10 10" + "000");
        Check.due("26: codes from one on", x.read(4, 2, 1, 3), 3);
        Check.dueText("26: codes from one on", x, 5, 4, 5);
    }

    /** The last place that there is, and the first that there is not. */
    private static void placesRead() {
        for (int codes = 1; codes <= 6; codes++) {
            PrefixCodes x = new PrefixCodes();
            for (int code = 0; code < codes; code++) {
                Check.codeOf(x, 1, 1);
            }
            Check.putBits(x, "1".repeat(codes - 1) + "0 1 01");
            Check.due("26: the last place of " + codes, x.read(0, codes, 1, 1), 1);
            Check.dueText("26: the last place of " + codes, x, 1);
            Check.dueBits("26: the last place of " + codes, x, "01");
            x.clear();
            Check.putBits(x, "1".repeat(codes) + "0 1 01");
            Check.due("26: a place beyond the last of " + codes, x.read(0, codes, 1, 1), BAD);
            Check.dueBits("26: with its last 1", x, "0 1 01");
            Check.dueText("26: the text stays", x, 1);
            x.clear();
            Check.putBits(x, "1".repeat(codes));
            Check.due("26: beyond the last, at the end", x.read(0, codes, 1, 1), BAD);
            Check.due("26: with its last 1, at the end", x.bits(), 0);
            if (codes > 1) {
                Check.putBits(x, "1".repeat(codes - 1));
                Check.due("26: one 1 fewer, at the end", x.read(0, codes, 1, 1), ENDED);
                Check.due("26: all are taken", x.bits(), 0);
            }
        }
    }

    /** More codes may be there than are read by: their number is what counts. */
    private static void placesBeyond() {
        PrefixCodes x = new PrefixCodes();
        for (int code = 0; code < 12; code++) {
            Check.codeOf(x, 1, 1);
        }
        Check.putBits(x, "0 110 1");
        Check.due("26: place 2 of two codes, though there are twelve", x.read(0, 2, 1, 2), BAD);
        Check.dueBits("26: place 2 of two codes", x, "0 1");
        x.clear();
        Check.putBits(x, "111110 1");
        Check.due("26: the last six of twelve", x.read(6, 6, 1, 1), 1);
    }

    /** SELECTORS first, one for each group; the last group perhaps has fewer symbols. */
    private static void howManySelectors() {
        int[][] edges = {{1, 1}, {1, 2}, {1, 500}, {1, 1000}, {2, 1}, {2, 2}, {2, 3}, {2, 999}, {2, 1000}, {7, 6}, {7, 7},
            {7, 8}, {99, 1000}, {99, 990}, {99, 991}, {100, 1}, {100, 99}, {100, 100}, {100, 101}, {100, 900},
            {100, 901}, {100, 999}, {100, 1000}};
        for (int[] edge : edges) {
            int groups = edge[1] / edge[0] + (edge[1] % edge[0] > 0 ? 1 : 0);
            PrefixCodes x = new PrefixCodes();
            Check.codeOf(x, 0, 1);
            x.code(64);
            for (int i = 0; i < 8; i++) {
                x.pack(1, 0);
            }
            int size = edge[0];
            int symbols = edge[1];
            Check.due("26: " + symbols + " by " + size, x.read(0, 1, size, symbols), symbols);
            Check.due("26: " + symbols + " by " + size + ", bits that are left", x.bits(), 2048 - groups - symbols);
            Check.due("26: " + symbols + " by " + size + ", the last", x.symbol(symbols - 1), 1);
            Check.due("26: " + symbols + " by " + size + ", the text", x.forget(), symbols);
        }
    }

    private static void theLastGroupOfRead() {
        PrefixCodes x = new PrefixCodes();
        Check.codeOf(x, 1, 0);
        Check.codeOf(x, 0, 1);
        // Three groups of three, the last one of one: codes 0 1 0.
        Check.putBits(x, "0 10 10 0000000 1");
        Check.due("26: seven by three", x.read(0, 2, 3, 7), 7);
        Check.dueText("26: seven by three", x, 0, 0, 0, 1, 1, 1, 0);
        Check.dueBits("26: seven by three", x, "1");
        x.clear();
        Check.putBits(x, "0 10 000000 1");
        Check.due("26: six by three", x.read(0, 2, 3, 6), 6);
        Check.dueText("26: six by three", x, 0, 0, 0, 1, 1, 1);
        Check.dueBits("26: six by three", x, "1");
    }

    /** They are THE TEXT then: what was there is gone, were it more or fewer. */
    private static void theTextOfRead() {
        PrefixCodes x = withText(many(300, 7));
        Check.codeOf(x, 2, 2, 2, 2);
        Check.putBits(x, "0 00 11 10");
        Check.due("26: three for 300", x.read(0, 1, 5, 3), 3);
        Check.dueText("26: three for 300", x, 0, 3, 2);
        Check.due("21: more behind them", x.add(63, -1, -1, -1, -1), 4);
        Check.dueText("21: more behind them", x, 0, 3, 2, 63);
        Check.due("7: counts of it", x.countText(), 4);
        Check.putBits(x, "0 0 01 01 01 01 01 01");
        Check.due("26: six for four", x.read(0, 1, 5, 6), 6);
        Check.dueText("26: six for four", x, many(6, 1));
        Check.due("22: all of them", x.forget(), 6);
    }

    /** A thousand symbols in a thousand groups by six codes. */
    private static void mostAtOnce() {
        PrefixCodes x = States.fillText(new PrefixCodes(), 0);
        x.choose(6, 1, 15, 8);
        int least = x.write();
        Check.due("25: all are put", x.bits(), least);
        Check.due("26: all are read", x.read(0, 6, 1, 1000), 1000);
        Check.due("26: no bit is left", x.bits(), 0);
        PrefixCodes text = States.fillText(new PrefixCodes(), 0);
        for (int i = 0; i < 1000; i += 4) {
            Check.due("26: symbol " + i, x.symbol(i), text.symbol(i));
        }
    }
}
