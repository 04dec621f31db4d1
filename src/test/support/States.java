/** States in which much is there, so that a change anywhere would be seen. */
final class States {
    // The numbers of the codes in rich(): one of each kind, then two of 64 symbols that were chosen.
    static final int NONE = 0, SINGLE = 1, FULL = 2, HOLES = 3, OVER = 4, CHOSEN = 5;
    static final int CODES = 7;
    /** In groups of three: the last one has fewer. The groups have the codes 0 0 1. */
    static final int[] TEXT = {0, 0, 0, 1, 1, 1, 2, 3};

    private States() {
    }

    /** Codes of all kinds, counts, a text, a choosing, a table, and these bits. */
    static PrefixCodes rich(String bits) {
        PrefixCodes x = new PrefixCodes();
        Check.codeOf(x, 0, 0, 0);
        Check.codeOf(x, 0, 1);
        Check.codeOf(x, 2, 1, 3, 3);
        Check.codeOf(x, 2, 3, 0, 3);
        Check.codeOf(x, 1, 1, 15);
        Check.addText(x, TEXT);
        x.choose(2, 3, 15, 1);
        Check.counts(x, 5, 1000000, 0, 2, 1);
        x.table(FULL, 2);
        Check.putBits(x, bits);
        return x;
    }

    /** Of the codes that there may be, so many are not made yet. */
    static PrefixCodes fillCodes(PrefixCodes x, int free) {
        while (x.about(11 - free, 1) == PrefixCodes.UNKNOWN) {
            x.code(1);
        }
        return x;
    }

    /** Behind the bits that are there come more, until just so many are free. */
    static PrefixCodes fillBits(PrefixCodes x, int free) {
        int codeOf64 = x.about(CHOSEN, 1) == 64 ? CHOSEN : x.code(64);
        // Packed lengths fill the stream in few calls.
        int bits = x.bits();
        while (bits + 256 <= 20000 - free) {
            bits += x.pack(codeOf64, 0);
        }
        while (bits < 20000 - free) {
            bits = x.putNumber(0x2AAAAAAA, Math.min(30, 20000 - free - bits));
        }
        return x;
    }

    /** Behind the text come more symbols, until just so many are free. */
    static PrefixCodes fillText(PrefixCodes x, int free) {
        int size = x.add(-1, 0, 0, 0, 0);
        while (size + 5 <= 1000 - free) {
            size = x.add(1, 2, size % 64, 0, 63);
        }
        while (size < 1000 - free) {
            size = x.add(size % 7, -1, -1, -1, -1);
        }
        return x;
    }
}
