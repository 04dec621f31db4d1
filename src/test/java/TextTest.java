/** Promises 21, 22 and 27: add, forget, symbol. */
public final class TextTest {
    private static final int OUTSIDE = PrefixCodes.OUTSIDE;
    private static final int ROOM = PrefixCodes.ROOM;

    public static void main(String[] args) {
        add();
        addRefused();
        addUpToTheRoom();
        forget();
        symbol();
        Check.end();
    }

    private static void add() {
        PrefixCodes x = new PrefixCodes();
        Check.due("21: five", x.add(0, 63, 1, 2, 3), 5);
        Check.due("21: up to one below 0", x.add(7, 8, -1, 9, 10), 7);
        Check.due("21: the last one is below 0", x.add(4, 4, 4, 4, -5), 11);
        Check.due("21: none", x.add(-1, 1, 2, 3, 4), 11);
        Check.due("21: none, the least number", x.add(Integer.MIN_VALUE, 0, 0, 0, 0), 11);
        Check.due("21: one", x.add(5, -2, 1, 2, 3), 12);
        Check.dueText("21: the text", x, 0, 63, 1, 2, 3, 7, 8, 4, 4, 4, 4, 5);
    }

    private static void addRefused() {
        PrefixCodes x = new PrefixCodes();
        x.add(1, 2, 3, -1, -1);
        Check.due("21: the first above 63", x.add(64, -1, -1, -1, -1), OUTSIDE);
        Check.due("21: the last above 63", x.add(1, 1, 1, 1, Integer.MAX_VALUE), OUTSIDE);
        Check.due("21: ahead of one below 0", x.add(1, 64, -1, 1, 1), OUTSIDE);
        Check.dueText("21: refused, the text stays", x, 1, 2, 3);
        Check.due("21: above 63 behind one below 0", x.add(9, -1, 64, 64, 64), 4);
        Check.due("21: none, 64 behind", x.add(-1, 64, 64, 64, 64), 4);
        Check.dueText("21: one more", x, 1, 2, 3, 9);
    }

    private static void addUpToTheRoom() {
        PrefixCodes x = new PrefixCodes();
        for (int i = 1; i <= 199; i++) {
            Check.due("21: five more", x.add(i % 64, 1, 2, 3, 4), 5 * i);
        }
        Check.due("21: 998", x.add(1, 2, 3, -1, 0), 998);
        Check.due("21: three more", x.add(9, 9, 9, -1, 0), ROOM);
        Check.due("21: OUTSIDE goes before ROOM", x.add(9, 9, 9, 9, 64), OUTSIDE);
        Check.due("21: two more", x.add(9, 8, -1, 9, 9), 1000);
        Check.due("21: full", x.add(9, -1, 0, 0, 0), ROOM);
        Check.due("21: none more", x.add(-1, 9, 9, 9, 9), 1000);
        Check.due("27: the last symbol", x.symbol(999), 8);
        Check.dueOutOfBounds("27: symbol(1000)", () -> x.symbol(1000));
        Check.due("22: all of them", x.forget(), 1000);
    }

    private static void forget() {
        PrefixCodes x = new PrefixCodes();
        Check.due("22: no text", x.forget(), 0);
        x.add(1, 2, 3, 4, 5);
        Check.due("22: how many it had", x.forget(), 5);
        Check.due("22: it is empty", x.forget(), 0);
        Check.dueOutOfBounds("22: no symbol is left", () -> x.symbol(0));
        Check.due("22: a new text", x.add(6, -1, 0, 0, 0), 1);
        Check.dueText("22: a new text", x, 6);
    }

    private static void symbol() {
        PrefixCodes x = new PrefixCodes();
        x.add(5, 0, 63, -1, 1);
        Check.due("27: symbol(0)", x.symbol(0), 5);
        Check.due("27: symbol(1)", x.symbol(1), 0);
        Check.due("27: symbol(2)", x.symbol(2), 63);
        Check.dueOutOfBounds("27: symbol(3)", () -> x.symbol(3));
        Check.dueOutOfBounds("27: symbol(-1)", () -> x.symbol(-1));
        Check.dueOutOfBounds("27: the least number", () -> x.symbol(Integer.MIN_VALUE));
        Check.dueOutOfBounds("27: the greatest number", () -> x.symbol(Integer.MAX_VALUE));
    }
}
