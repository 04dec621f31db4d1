import java.util.Random;

/** What the tests share: counts wrong answers, and ends with exit code 1 if there was one. */
final class Check {
    interface Call {
        long answer();
    }

    private static int wrong = 0;

    private Check() {
    }

    static void due(String what, long got, long want) {
        if (got != want) {
            tell(what + " answered " + got + ", due is " + want);
        }
    }

    static void due(String what, String got, String want) {
        if (!got.equals(want)) {
            tell(what + " answered " + got + ", due is " + want);
        }
    }

    /** The exception itself is due, not one of the machine's below it. */
    static void dueOutOfBounds(String what, Call call) {
        try {
            tell(what + " answered " + call.answer() + ", due is IndexOutOfBoundsException");
        } catch (RuntimeException e) {
            if (e.getClass() != IndexOutOfBoundsException.class) {
                tell(what + " threw " + e + ", due is IndexOutOfBoundsException");
            }
        }
    }

    static void tell(String fault) {
        wrong++;
        if (wrong <= 50) {
            System.out.println(fault);
        }
    }

    static int faults() {
        return wrong;
    }

    static void end() {
        if (wrong != 0) {
            System.out.println(wrong + " answers are not as due");
            System.exit(1);
        }
    }

    /** A code with these lengths: its number. */
    static int codeOf(PrefixCodes x, int... lengths) {
        int code = x.code(lengths.length);
        for (int symbol = 0; symbol < lengths.length; symbol++) {
            if (lengths[symbol] != 0) {
                due("length of " + symbol, x.length(code, symbol, lengths[symbol]), 0);
            }
        }
        return code;
    }

    /** Looks at lengths by taking them off: the code has none then. */
    static void dueLengths(String what, PrefixCodes x, int code, int... lengths) {
        due(what + ": symbols", x.about(code, 1), lengths.length);
        for (int symbol = 0; symbol < lengths.length; symbol++) {
            due(what + ": length of " + symbol, x.length(code, symbol, 0), lengths[symbol]);
        }
    }

    static void counts(PrefixCodes x, int... counts) {
        for (int symbol = 0; symbol < counts.length; symbol++) {
            x.count(symbol, counts[symbol]);
        }
    }

    /** Puts a written row of 0s and 1s; blanks are for the eye. */
    static void putBits(PrefixCodes x, String bits) {
        String row = bits.replace(" ", "");
        for (int from = 0; from < row.length(); from += 30) {
            String part = row.substring(from, Math.min(row.length(), from + 30));
            x.putNumber(Integer.parseInt(part, 2), part.length());
        }
    }

    static String bitsOf(PrefixCodes x) {
        StringBuilder row = new StringBuilder();
        int bits = x.bits();
        for (int i = 0; i < bits; i++) {
            row.append(x.bit(i));
        }
        return row.toString();
    }

    static void dueBits(String what, PrefixCodes x, String bits) {
        due(what, bitsOf(x), bits.replace(" ", ""));
    }

    static void addText(PrefixCodes x, int... symbols) {
        for (int from = 0; from < symbols.length; from += 5) {
            int[] five = {-1, -1, -1, -1, -1};
            System.arraycopy(symbols, from, five, 0, Math.min(5, symbols.length - from));
            x.add(five[0], five[1], five[2], five[3], five[4]);
        }
    }

    static void dueText(String what, PrefixCodes x, int... symbols) {
        for (int i = 0; i < symbols.length; i++) {
            due(what + ": symbol " + i, x.symbol(i), symbols[i]);
        }
        dueOutOfBounds(what + ": symbol behind the text", () -> x.symbol(symbols.length));
    }

    static void dueGroups(String what, PrefixCodes x, int... codes) {
        for (int g = 0; g < codes.length; g++) {
            due(what + ": group " + g, x.group(g), codes[g]);
        }
        due(what + ": group behind the last", x.group(codes.length), PrefixCodes.OUTSIDE);
    }

    static int among(Random random, int... choices) {
        return choices[random.nextInt(choices.length)];
    }
}
