import java.util.ArrayList;
import java.util.List;

/**
 * Holds an object on which a call was refused against a twin on which it was not made, by all that
 * calls tell. An object is good for 512 calls, so each look is at a new pair, and is short.
 */
final class Twins {
    interface Maker {
        PrefixCodes make();
    }

    interface Act {
        long on(PrefixCodes x);
    }

    private interface Look {
        String at(PrefixCodes x);
    }

    private static final int CALLS_OF_A_LOOK = 150;

    private Twins() {
    }

    /** The call is refused, and nothing is changed by it. */
    static void dueRefused(String what, Maker maker, Act act, int refusal) {
        dueAlike(what, acted(what, maker, act, refusal), maker);
    }

    /** The call is refused, and nothing is changed but that so many bits are gone from the beginning. */
    static void dueTaken(String what, Maker maker, Act act, int refusal, int taken) {
        dueAlike(what, acted(what, maker, act, refusal), () -> {
            PrefixCodes x = maker.make();
            for (int left = taken; left > 0; left -= 30) {
                x.takeNumber(Math.min(left, 30));
            }
            return x;
        });
    }

    /** The call throws an IndexOutOfBoundsException, and nothing is changed by it. */
    static void dueThrown(String what, Maker maker, Act act) {
        dueAlike(what, () -> {
            PrefixCodes x = maker.make();
            Check.dueOutOfBounds(what, () -> act.on(x));
            return x;
        }, maker);
    }

    /** The call answers this, and what is there then is as in the other object. */
    static void dueAlike(String what, Maker maker, Act act, long answer, Maker other) {
        dueAlike(what, acted(what, maker, act, answer), other);
    }

    private static Maker acted(String what, Maker maker, Act act, long answer) {
        return () -> {
            PrefixCodes x = maker.make();
            Check.due(what, act.on(x), answer);
            return x;
        };
    }

    private static void dueAlike(String what, Maker one, Maker other) {
        for (Look look : looks(other)) {
            Check.due(what + ", what is there then", look.at(one.make()), look.at(other.make()));
        }
    }

    private static List<Look> looks(Maker maker) {
        List<Look> looks = new ArrayList<>();
        looks.add(Twins::sizes);
        looks.add(Twins::counts);
        looks.add(Twins::written);
        looks.add(Twins::onward);
        for (int c = 0; c < 12; c++) {
            int code = c;
            looks.add(x -> code(x, code));
        }
        addRows(looks, "bit", maker.make().bits(), 1, (x, i) -> x.bit(i));
        addRows(looks, "symbol", maker.make().forget(), 1, (x, i) -> x.symbol(i));
        addRows(looks, "group", groups(maker.make()), 1, (x, i) -> x.group(i));
        addRows(looks, "entry", entries(maker.make()), 3,
                (x, i) -> x.entry(i, 0) + 10L * (x.entry(i, 2) + 100L * x.entry(i, 1)));
        return looks;
    }

    private interface Item {
        long of(PrefixCodes x, int i);
    }

    /** A row in parts, the last of which goes one beyond the row's end. */
    private static void addRows(List<Look> looks, String name, int size, int callsEach, Item item) {
        int many = CALLS_OF_A_LOOK / callsEach;
        for (int from = 0; from <= size; from += many) {
            int first = from;
            int last = Math.min(size, from + many - 1);
            looks.add(x -> {
                StringBuilder told = new StringBuilder(name).append("s from ").append(first).append(":");
                for (int i = first; i <= last; i++) {
                    int place = i;
                    told.append(' ').append(told(() -> item.of(x, place)));
                }
                return told.toString();
            });
        }
    }

    private static String told(Check.Call call) {
        try {
            return Long.toString(call.answer());
        } catch (IndexOutOfBoundsException e) {
            return "none";
        }
    }

    private static int groups(PrefixCodes x) {
        int groups = 0;
        for (int step = 512; step > 0; step /= 2) {
            groups += x.group(groups + step - 1) >= 0 ? step : 0;
        }
        return groups;
    }

    private static int entries(PrefixCodes x) {
        int entries = 0;
        for (int step = 1 << 16; step > 0; step /= 2) {
            int last = entries + step - 1;
            entries += told(() -> x.entry(last, 0)).equals("none") ? 0 : step;
        }
        return entries;
    }

    private static String sizes(PrefixCodes x) {
        StringBuilder told = new StringBuilder("sizes:");
        for (int code = 0; code < 13; code++) {
            told.append(' ').append(x.about(code, 1));
        }
        told.append(", next ").append(x.code(1)).append(", bits ").append(x.bits());
        told.append(" ").append(x.clear()).append(", text ").append(x.forget());
        return told.toString();
    }

    private static String counts(PrefixCodes x) {
        StringBuilder told = new StringBuilder("counts:");
        for (int symbol = 0; symbol < 64; symbol++) {
            told.append(' ').append(x.count(symbol, 0));
        }
        return told.toString();
    }

    private static String code(PrefixCodes x, int code) {
        StringBuilder told = new StringBuilder("code ").append(code).append(":");
        for (int what = 0; what < 5; what++) {
            told.append(' ').append(x.about(code, what));
        }
        told.append(", cost ").append(x.cost(code)).append(", words");
        int symbols = x.about(code, 1);
        for (int symbol = 0; symbol < symbols; symbol++) {
            told.append(' ').append(x.word(code, symbol, false));
        }
        told.append(", lengths");
        for (int symbol = 0; symbol < symbols; symbol++) {
            told.append(' ').append(x.length(code, symbol, 0));
        }
        return told.toString();
    }

    private static String written(PrefixCodes x) {
        x.clear();
        StringBuilder told = new StringBuilder("written: ").append(x.write());
        for (int i = 0; i < 100 && x.bits() > 0; i++) {
            told.append(' ').append(x.takeNumber(Math.min(30, x.bits())));
        }
        return told.toString();
    }

    /** Calls go on as if the refused one had not been. */
    private static String onward(PrefixCodes x) {
        StringBuilder told = new StringBuilder("onward:");
        told.append(' ').append(x.putNumber(5, 3)).append(' ').append(x.take(States.FULL, false));
        told.append(' ').append(x.take(States.FULL, true)).append(' ').append(x.put(States.FULL, 3, true));
        for (int manner = 0; manner < 3; manner++) {
            told.append(' ').append(x.pack(States.FULL, manner));
        }
        told.append(' ').append(x.write()).append(' ').append(x.add(1, 2, 63, -1, 64));
        told.append(' ').append(x.countText()).append(' ').append(x.least(64, 15));
        told.append(' ').append(x.unpack(4, 0)).append(' ').append(x.choose(1, 1, 15, 1));
        told.append(' ').append(x.group(0)).append(' ').append(x.table(States.FULL, 1)).append(' ').append(x.bits());
        return told.toString();
    }
}
