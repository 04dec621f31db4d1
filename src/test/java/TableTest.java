import java.util.ArrayList;
import java.util.List;

/** Promises 19 and 20: table and entry. */
public final class TableTest {
    private static final int NONE = PrefixCodes.NONE;
    private static final int UNKNOWN = PrefixCodes.UNKNOWN;
    private static final int OUTSIDE = PrefixCodes.OUTSIDE;
    private static final int STATE = PrefixCodes.STATE;

    private static final int[] NOTHING = {0, NONE, 0};

    public static void main(String[] args) {
        tableWithoutParts();
        tableWithParts();
        tableWithHoles();
        tableOfNoneAndSingle();
        tableStays();
        tableRefused();
        entryOutside();
        greatestTables();
        Check.end();
    }

    private static int[] symbol(int symbol, int length) {
        return new int[] {1, symbol, length};
    }

    private static int[] link(int start, int bits) {
        return new int[] {2, start, bits};
    }

    private static void dueTable(String what, PrefixCodes x, int code, int root, int[]... entries) {
        Check.due("19: " + what, x.table(code, root), entries.length);
        dueEntries(what, x, entries);
    }

    private static void dueEntries(String what, PrefixCodes x, int[]... entries) {
        for (int i = 0; i < entries.length; i++) {
            for (int k = 0; k < 3; k++) {
                Check.due("20: " + what + ", entry " + i + ", " + k, x.entry(i, k), entries[i][k]);
            }
        }
        Check.dueOutOfBounds("20: " + what + ", behind the last", () -> x.entry(entries.length, 0));
    }

    private static void tableWithoutParts() {
        PrefixCodes x = new PrefixCodes();
        int code = Check.codeOf(x, 2, 1, 2);
        dueTable("words of root bits", x, code, 2, symbol(1, 1), symbol(1, 1), symbol(0, 2), symbol(2, 2));
        dueTable("words of fewer than root bits", x, code, 3, symbol(1, 1), symbol(1, 1), symbol(1, 1),
                symbol(1, 1), symbol(0, 2), symbol(0, 2), symbol(2, 2), symbol(2, 2));
    }

    /** Words 00 (1), 010 (0), 011 (4), 100 (5), 1010 (2), 1011 (3), 1100 (6). */
    private static void tableWithParts() {
        PrefixCodes x = new PrefixCodes();
        int code = Check.codeOf(x, 3, 2, 4, 4, 3, 3, 4);
        dueTable("a part for 0 and one for 1", x, code, 1,
                link(2, 2), link(6, 3),
                symbol(1, 2), symbol(1, 2), symbol(0, 3), symbol(4, 3),
                symbol(5, 3), symbol(5, 3), symbol(2, 4), symbol(3, 4), symbol(6, 4), NOTHING, NOTHING, NOTHING);
        dueTable("parts of different bits", x, code, 2,
                symbol(1, 2), link(4, 1), link(6, 2), link(10, 2),
                symbol(0, 3), symbol(4, 3),
                symbol(5, 3), symbol(5, 3), symbol(2, 4), symbol(3, 4),
                symbol(6, 4), NOTHING, NOTHING, NOTHING);
    }

    private static void tableWithHoles() {
        PrefixCodes x = new PrefixCodes();
        int code = Check.codeOf(x, 0, 3, 2);
        dueTable("words 00 and 010, two bits", x, code, 2,
                symbol(2, 2), link(4, 1), NOTHING, NOTHING, symbol(1, 3), NOTHING);
        dueTable("words 00 and 010, one bit", x, code, 1,
                link(2, 2), NOTHING, symbol(2, 2), symbol(2, 2), symbol(1, 3), NOTHING);
    }

    private static void tableOfNoneAndSingle() {
        PrefixCodes x = new PrefixCodes();
        dueTable("NONE", x, x.code(5), 1, NOTHING, NOTHING);
        dueTable("SINGLE", x, Check.codeOf(x, 0, 1), 2, symbol(1, 1), symbol(1, 1), NOTHING, NOTHING);
    }

    private static void tableStays() {
        PrefixCodes x = new PrefixCodes();
        int code = Check.codeOf(x, 2, 1, 2);
        int[][] entries = {symbol(1, 1), link(2, 1), symbol(0, 2), symbol(2, 2)};
        dueTable("as it is now", x, code, 1, entries);
        x.length(code, 0, 0);
        dueEntries("whatever becomes of the code", x, entries);
        x.length(code, 2, 1);
        x.length(code, 0, 1);
        Check.due("19: OVER", x.table(code, 1), STATE);
        Check.due("19: the root", x.table(code, 0), OUTSIDE);
        Check.due("19: no such code", x.table(1, 1), UNKNOWN);
        dueEntries("refused, the table before is told", x, entries);
        x.length(code, 1, 0);
        dueTable("the next table", x, code, 1, symbol(0, 1), symbol(2, 1));
    }

    private static void tableRefused() {
        PrefixCodes x = new PrefixCodes();
        int over = Check.codeOf(x, 1, 1, 1);
        Check.due("19: OVER", x.table(over, 1), STATE);
        Check.due("19: OUTSIDE goes before STATE", x.table(over, 10), OUTSIDE);
        Check.due("19: root 0", x.table(over, 0), OUTSIDE);
        Check.due("19: root -1", x.table(over, -1), OUTSIDE);
        Check.due("19: UNKNOWN goes before OUTSIDE", x.table(1, 10), UNKNOWN);
        Check.due("19: code -1", x.table(-1, 1), UNKNOWN);
        Check.dueOutOfBounds("20: no table yet", () -> x.entry(0, 0));
        x.length(over, 2, 0);
        Check.due("19: root 9", x.table(over, 9), 512);
        Check.due("20: root 9, the last entry", x.entry(511, 1), 1);
    }

    private static void entryOutside() {
        PrefixCodes x = new PrefixCodes();
        Check.due("19: root 1", x.table(x.code(1), 1), 2);
        Check.dueOutOfBounds("20: entry -1", () -> x.entry(-1, 0));
        Check.dueOutOfBounds("20: entry 2", () -> x.entry(2, 0));
        Check.dueOutOfBounds("20: what -1", () -> x.entry(0, -1));
        Check.dueOutOfBounds("20: what 3", () -> x.entry(0, 3));
        Check.dueOutOfBounds("20: the greatest numbers", () -> x.entry(Integer.MAX_VALUE, Integer.MAX_VALUE));
        Check.dueOutOfBounds("20: the least numbers", () -> x.entry(Integer.MIN_VALUE, Integer.MIN_VALUE));
    }

    /** Two parts of 14 bits each: words of 15 bits begin with 0 and with 1. */
    private static void greatestTables() {
        PrefixCodes x = new PrefixCodes();
        List<Integer> lengths = new ArrayList<>();
        for (int length = 2; length <= 15; length++) {
            lengths.add(length);
        }
        lengths.add(15);
        lengths.add(15);
        int code = Check.codeOf(x, lengths.stream().mapToInt(Integer::intValue).toArray());
        Check.due("19: the greatest table", x.table(code, 1), 2 + 16384 + 16384);
        Check.due("20: link of 0", x.entry(0, 1), 2);
        Check.due("20: bits of 0", x.entry(0, 2), 14);
        Check.due("20: link of 1", x.entry(1, 1), 16386);
        Check.due("20: bits of 1", x.entry(1, 2), 14);
        Check.due("20: 00 and what comes", x.entry(2 + 8191, 1), 0);
        Check.due("20: 01 and 0s", x.entry(2 + 8192, 1), 1);
        Check.due("20: 0 and 1s", x.entry(16385, 1), 14);
        Check.due("20: 0 and 1s, its whole length", x.entry(16385, 2), 15);
        Check.due("20: 1 and 0s", x.entry(16386, 1), 15);
        Check.due("20: 1 and 0s and a 1", x.entry(16387, 0), 0);
        Check.due("20: the last entry", x.entry(32769, 1), NONE);
        Check.dueOutOfBounds("20: behind the last", () -> x.entry(32770, 0));
        Check.due("19: root 9", x.table(code, 9), 512 + 64 + 64);
        Check.due("20: link at root 9", x.entry(255, 1), 512);
        Check.due("20: link at root 9, its bits", x.entry(255, 2), 6);
        Check.due("20: the next link", x.entry(256, 1), 576);
        Check.due("20: the next link's bits", x.entry(256, 2), 6);
        Check.due("20: no link", x.entry(257, 0), 0);
    }
}
