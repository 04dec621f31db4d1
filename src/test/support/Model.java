import java.util.ArrayList;
import java.util.Collections;
import java.util.Comparator;
import java.util.List;

/**
 * The document said again with texts of bits and lists, slowly: what a run of random calls is held
 * against. It shares nothing with the program but the document.
 */
final class Model {
    static final int UNKNOWN = -101, OUTSIDE = -102, STATE = -103, ENDED = -104, BAD = -105, ROOM = -106;
    /** Stands for an IndexOutOfBoundsException. */
    static final long THROWS = Long.MIN_VALUE;

    private static final int[] ORDER = {16, 17, 18, 0, 8, 7, 9, 6, 10, 5, 11, 4, 12, 3, 13, 2, 14, 1, 15};

    private final List<int[]> codes = new ArrayList<>();
    private final int[] counts = new int[64];
    private String stream = "";
    private List<Integer> text = new ArrayList<>();
    private List<int[]> table = new ArrayList<>();
    private List<Integer> chosenText = null;
    private int[] chosenGroups = null;
    private int chosenFirst = 0, chosenMany = 0, chosenSize = 0;

    private static boolean in(int v, int from, int to) {
        return from <= v && v <= to;
    }

    private boolean known(int code) {
        return in(code, 0, codes.size() - 1);
    }

    private boolean known(int code, int symbol) {
        return known(code) && in(symbol, 0, codes.get(code).length - 1);
    }

    // ---- codes

    static long filled(int[] lengths) {
        long sum = 0;
        for (int length : lengths) {
            sum += length == 0 ? 0 : Math.round(Math.pow(2, 15 - length));
        }
        return sum;
    }

    static int kind(int[] lengths) {
        int having = 0;
        for (int length : lengths) {
            having += length == 0 ? 0 : 1;
        }
        long filled = filled(lengths);
        if (having == 0) {
            return 0;
        }
        if (having == 1 && filled == 16384) {
            return 1;
        }
        return filled == 32768 ? 2 : filled < 32768 ? 3 : 4;
    }

    /** Each symbol's word as a text of bits, null where it has none. */
    static String[] words(int[] lengths) {
        List<Integer> symbols = new ArrayList<>();
        for (int symbol = 0; symbol < lengths.length; symbol++) {
            if (lengths[symbol] > 0) {
                symbols.add(symbol);
            }
        }
        symbols.sort(Comparator.comparingInt((Integer s) -> lengths[s]).thenComparingInt(s -> s));
        String[] words = new String[lengths.length];
        String before = null;
        for (int symbol : symbols) {
            String word = before == null ? "" : bitsOf(Integer.parseInt(before, 2) + 1, before.length());
            words[symbol] = word + "0".repeat(lengths[symbol] - word.length());
            before = words[symbol];
        }
        return words;
    }

    static String bitsOf(int v, int n) {
        StringBuilder bits = new StringBuilder();
        for (int i = 0; i < n; i++) {
            bits.append((v >> i) & 1);
        }
        return bits.reverse().toString();
    }

    private static final class Item {
        final long weight;
        final List<Integer> symbols = new ArrayList<>();

        Item(long weight) {
            this.weight = weight;
        }
    }

    static int[] packages(int[] counts, int n, int limit) {
        List<Item> first = new ArrayList<>();
        for (int symbol = 0; symbol < n; symbol++) {
            if (counts[symbol] > 0) {
                Item item = new Item(counts[symbol]);
                item.symbols.add(symbol);
                first.add(item);
            }
        }
        int[] lengths = new int[n];
        int m = first.size();
        if (m == 1) {
            lengths[first.get(0).symbols.get(0)] = 1;
        }
        if (m < 2) {
            return lengths;
        }
        Comparator<Item> byWeight = Comparator.comparingLong(item -> item.weight);
        first.sort(byWeight);
        List<Item> row = first;
        for (int r = 2; r <= limit; r++) {
            List<Item> next = new ArrayList<>(first);
            for (int i = 0; i + 1 < row.size(); i += 2) {
                Item pair = new Item(row.get(i).weight + row.get(i + 1).weight);
                pair.symbols.addAll(row.get(i).symbols);
                pair.symbols.addAll(row.get(i + 1).symbols);
                next.add(pair);
            }
            // The sort keeps what is alike in its order: symbols ahead of pairs.
            next.sort(byWeight);
            row = next;
        }
        for (Item item : row.subList(0, 2 * m - 2)) {
            for (int symbol : item.symbols) {
                lengths[symbol]++;
            }
        }
        return lengths;
    }

    long code(int symbols) {
        if (!in(symbols, 1, 64)) {
            return OUTSIDE;
        }
        return keep(new int[symbols]);
    }

    private long keep(int[] lengths) {
        if (codes.size() == 12) {
            return ROOM;
        }
        codes.add(lengths);
        return codes.size() - 1;
    }

    long length(int code, int symbol, int v) {
        if (!known(code, symbol)) {
            return UNKNOWN;
        }
        if (!in(v, 0, 15)) {
            return OUTSIDE;
        }
        int had = codes.get(code)[symbol];
        codes.get(code)[symbol] = v;
        return had;
    }

    long about(int code, int what) {
        if (!known(code)) {
            return UNKNOWN;
        }
        int[] lengths = codes.get(code);
        int having = 0;
        int greatest = 0;
        for (int length : lengths) {
            having += length > 0 ? 1 : 0;
            greatest = Math.max(greatest, length);
        }
        long[] answers = {kind(lengths), lengths.length, filled(lengths), having, greatest};
        return in(what, 0, 4) ? answers[what] : OUTSIDE;
    }

    private String wordOf(int code, int symbol) {
        return kind(codes.get(code)) == 4 ? null : words(codes.get(code))[symbol];
    }

    private static String turned(String bits) {
        return new StringBuilder(bits).reverse().toString();
    }

    long word(int code, int symbol, boolean turned) {
        if (!known(code, symbol)) {
            return UNKNOWN;
        }
        String word = wordOf(code, symbol);
        return word == null ? STATE : Integer.parseInt(turned ? turned(word) : word, 2);
    }

    long count(int symbol, int v) {
        if (!in(symbol, 0, 63) || !in(v, 0, 1000000)) {
            return OUTSIDE;
        }
        int had = counts[symbol];
        counts[symbol] = v;
        return had;
    }

    long countText() {
        int come = 0;
        for (int symbol = 0; symbol < 64; symbol++) {
            counts[symbol] = Collections.frequency(text, symbol);
            come += counts[symbol] > 0 ? 1 : 0;
        }
        return come;
    }

    long least(int symbols, int limit) {
        if (!in(symbols, 1, 64) || !in(limit, 1, 15)) {
            return OUTSIDE;
        }
        int m = 0;
        for (int symbol = 0; symbol < symbols; symbol++) {
            m += counts[symbol] > 0 ? 1 : 0;
        }
        if (m > Math.pow(2, limit)) {
            return STATE;
        }
        return codes.size() == 12 ? ROOM : keep(packages(counts, symbols, limit));
    }

    long cost(int code) {
        if (!known(code)) {
            return UNKNOWN;
        }
        long sum = 0;
        for (int symbol = 0; symbol < codes.get(code).length; symbol++) {
            sum += (long) counts[symbol] * codes.get(code)[symbol];
        }
        return sum;
    }

    // ---- the stream

    long bits() {
        return stream.length();
    }

    long bit(int i) {
        return in(i, 0, stream.length() - 1) ? stream.charAt(i) - '0' : THROWS;
    }

    long clear() {
        int had = stream.length();
        stream = "";
        return had;
    }

    /** How many bits there are then. */
    private long append(String bits) {
        if (stream.length() + bits.length() > 20000) {
            return ROOM;
        }
        stream += bits;
        return stream.length();
    }

    long putNumber(int v, int n) {
        return in(n, 1, 30) ? append(bitsOf(v, n)) : OUTSIDE;
    }

    long takeNumber(int n) {
        return in(n, 1, 30) ? number(n) : OUTSIDE;
    }

    private int number(int n) {
        if (stream.length() < n) {
            return ENDED;
        }
        int number = Integer.parseInt(stream.substring(0, n), 2);
        stream = stream.substring(n);
        return number;
    }

    long put(int code, int symbol, boolean back) {
        if (!known(code, symbol)) {
            return UNKNOWN;
        }
        String word = wordOf(code, symbol);
        return word == null ? STATE : append(back ? turned(word) : word);
    }

    long take(int code, boolean back) {
        if (!known(code)) {
            return UNKNOWN;
        }
        if (kind(codes.get(code)) == 4 || kind(codes.get(code)) == 0) {
            return STATE;
        }
        if (back) {
            stream = turned(stream);
        }
        int symbol = symbolOf(codes.get(code));
        if (back) {
            stream = turned(stream);
        }
        return symbol;
    }

    private int symbolOf(int[] lengths) {
        String[] words = words(lengths);
        for (int n = 0; n <= stream.length(); n++) {
            String bits = stream.substring(0, n);
            boolean begins = false;
            for (int symbol = 0; symbol < words.length; symbol++) {
                if (words[symbol] != null && words[symbol].equals(bits)) {
                    stream = stream.substring(n);
                    return symbol;
                }
                begins |= words[symbol] != null && words[symbol].startsWith(bits);
            }
            if (!begins) {
                stream = stream.substring(n);
                return BAD;
            }
        }
        stream = "";
        return ENDED;
    }

    long pack(int code, int manner) {
        if (!known(code)) {
            return UNKNOWN;
        }
        if (!in(manner, 0, 2)) {
            return OUTSIDE;
        }
        int[] lengths = codes.get(code);
        String bits = manner == 0 ? plain(lengths) : manner == 1 ? steps(lengths) : runs(lengths);
        return append(bits) < 0 ? ROOM : bits.length();
    }

    private static String plain(int[] lengths) {
        StringBuilder bits = new StringBuilder();
        for (int length : lengths) {
            bits.append(bitsOf(length, 4));
        }
        return bits.toString();
    }

    private static String steps(int[] lengths) {
        StringBuilder bits = new StringBuilder(bitsOf(lengths[0], 4));
        int before = lengths[0];
        for (int length : lengths) {
            bits.append((length > before ? "10" : "11").repeat(Math.abs(length - before))).append("0");
            before = length;
        }
        return bits.toString();
    }

    private static String runs(int[] lengths) {
        List<Integer> commands = new ArrayList<>();
        List<String> behind = new ArrayList<>();
        int at = 0;
        while (at < lengths.length) {
            int zeros = like(lengths, at, 0);
            int same = at == 0 || lengths[at - 1] == 0 ? 0 : like(lengths, at, lengths[at - 1]);
            int run = 1;
            if (zeros >= 11) {
                run = Math.min(zeros, 138);
                commands.add(18);
                behind.add(bitsOf(run - 11, 7));
            } else if (zeros >= 3) {
                run = Math.min(zeros, 10);
                commands.add(17);
                behind.add(bitsOf(run - 3, 3));
            } else if (same >= 3) {
                run = Math.min(same, 6);
                commands.add(16);
                behind.add(bitsOf(run - 3, 2));
            } else {
                commands.add(lengths[at]);
                behind.add("");
            }
            at += run;
        }
        int[] often = new int[19];
        for (int command : commands) {
            often[command]++;
        }
        int[] code = packages(often, 19, 7);
        int told = 4;
        for (int i = 0; i < 19; i++) {
            if (code[ORDER[i]] != 0) {
                told = Math.max(told, i + 1);
            }
        }
        StringBuilder bits = new StringBuilder(bitsOf(told - 4, 4));
        for (int i = 0; i < told; i++) {
            bits.append(bitsOf(code[ORDER[i]], 3));
        }
        String[] words = words(code);
        for (int i = 0; i < commands.size(); i++) {
            bits.append(words[commands.get(i)]).append(behind.get(i));
        }
        return bits.toString();
    }

    private static int like(int[] lengths, int at, int length) {
        int run = 0;
        while (at + run < lengths.length && lengths[at + run] == length) {
            run++;
        }
        return run;
    }

    long unpack(int symbols, int manner) {
        if (!in(symbols, 1, 64) || !in(manner, 0, 2)) {
            return OUTSIDE;
        }
        String before = stream;
        List<Integer> lengths = new ArrayList<>();
        int refusal = manner == 0 ? readPlain(symbols, lengths)
                : manner == 1 ? readSteps(symbols, lengths) : readRuns(symbols, lengths);
        if (refusal < 0) {
            return refusal;
        }
        if (codes.size() == 12) {
            stream = before;
            return ROOM;
        }
        return keep(lengths.stream().mapToInt(Integer::intValue).toArray());
    }

    private int readPlain(int symbols, List<Integer> lengths) {
        while (lengths.size() < symbols) {
            int length = number(4);
            if (length < 0) {
                return length;
            }
            lengths.add(length);
        }
        return 0;
    }

    private int readSteps(int symbols, List<Integer> lengths) {
        int length = number(4);
        if (length < 0) {
            return length;
        }
        while (lengths.size() < symbols) {
            int bit = number(1);
            if (bit == 0) {
                lengths.add(length);
                continue;
            }
            int other = bit == 1 ? number(1) : ENDED;
            if (other < 0) {
                return ENDED;
            }
            length += other == 0 ? 1 : -1;
            if (!in(length, 0, 15)) {
                return BAD;
            }
        }
        return 0;
    }

    private int readRuns(int symbols, List<Integer> lengths) {
        int told = number(4);
        if (told < 0) {
            return told;
        }
        int[] code = new int[19];
        for (int i = 0; i < told + 4; i++) {
            int length = number(3);
            if (length < 0) {
                return length;
            }
            code[ORDER[i]] = length;
        }
        if (kind(code) != 1 && kind(code) != 2) {
            return BAD;
        }
        while (lengths.size() < symbols) {
            int command = symbolOf(code);
            if (command < 0) {
                return command;
            }
            int before = lengths.isEmpty() ? 0 : lengths.get(lengths.size() - 1);
            int many = 1;
            int what = command;
            if (command == 16 && before == 0) {
                return BAD;
            }
            if (command >= 16) {
                many = number(command == 16 ? 2 : command == 17 ? 3 : 7);
                if (many < 0) {
                    return many;
                }
                many += command == 18 ? 11 : 3;
                what = command == 16 ? before : 0;
            }
            if (lengths.size() + many > symbols) {
                return BAD;
            }
            lengths.addAll(Collections.nCopies(many, what));
        }
        return 0;
    }

    // ---- tables

    long table(int code, int root) {
        if (!known(code)) {
            return UNKNOWN;
        }
        if (!in(root, 1, 9)) {
            return OUTSIDE;
        }
        if (kind(codes.get(code)) == 4) {
            return STATE;
        }
        String[] words = words(codes.get(code));
        table = level(words, "", root, true);
        int top = 1 << root;
        for (int i = 0; i < top; i++) {
            if (table.get(i)[0] == 2) {
                table.get(i)[1] = table.size();
                table.addAll(level(words, bitsOf(i, root), table.get(i)[2], false));
            }
        }
        return table.size();
    }

    private static List<int[]> level(String[] words, String ahead, int bits, boolean links) {
        List<int[]> entries = new ArrayList<>();
        for (int i = 0; i < 1 << bits; i++) {
            String all = ahead + bitsOf(i, bits);
            int[] entry = {0, -1, 0};
            for (int symbol = 0; symbol < words.length; symbol++) {
                String word = words[symbol];
                if (word != null && all.startsWith(word)) {
                    entry = new int[] {1, symbol, word.length()};
                } else if (word != null && links && word.startsWith(all)) {
                    entry = new int[] {2, -1, Math.max(entry[2], word.length() - bits)};
                }
            }
            entries.add(entry);
        }
        return entries;
    }

    long entry(int i, int what) {
        return in(i, 0, table.size() - 1) && in(what, 0, 2) ? table.get(i)[what] : THROWS;
    }

    // ---- texts

    long add(int... symbols) {
        List<Integer> more = new ArrayList<>();
        for (int symbol : symbols) {
            if (symbol < 0) {
                break;
            }
            more.add(symbol);
        }
        if (!more.isEmpty() && Collections.max(more) > 63) {
            return OUTSIDE;
        }
        if (text.size() + more.size() > 1000) {
            return ROOM;
        }
        text.addAll(more);
        return text.size();
    }

    long forget() {
        int had = text.size();
        text = new ArrayList<>();
        return had;
    }

    long choose(int many, int size, int limit, int rounds) {
        if (!in(many, 1, 6) || !in(size, 1, 100) || !in(limit, 1, 15) || !in(rounds, 0, 8)) {
            return OUTSIDE;
        }
        long different = text.stream().distinct().count();
        if (different == 0 || different > Math.pow(2, limit)) {
            return STATE;
        }
        if (codes.size() + many > 12) {
            return ROOM;
        }
        List<List<Integer>> groups = grouped(text, size);
        int[] codeOf = new int[groups.size()];
        for (int g = 0; g < groups.size(); g++) {
            codeOf[g] = (int) Math.floor((double) (g * many) / groups.size());
        }
        List<int[]> made = madeFor(groups, codeOf, many, limit);
        for (int round = 0; round < rounds; round++) {
            for (int g = 0; g < groups.size(); g++) {
                List<Integer> costs = new ArrayList<>();
                for (int[] lengths : made) {
                    costs.add(groups.get(g).stream().mapToInt(s -> lengths[s]).sum());
                }
                codeOf[g] = costs.indexOf(Collections.min(costs));
            }
            made = madeFor(groups, codeOf, many, limit);
        }
        chosenText = text;
        text = new ArrayList<>(text);
        chosenGroups = codeOf;
        chosenFirst = codes.size();
        chosenMany = many;
        chosenSize = size;
        codes.addAll(made);
        return chosenFirst;
    }

    private static List<List<Integer>> grouped(List<Integer> text, int size) {
        List<List<Integer>> groups = new ArrayList<>();
        for (int from = 0; from < text.size(); from += size) {
            groups.add(text.subList(from, Math.min(text.size(), from + size)));
        }
        return groups;
    }

    private List<int[]> madeFor(List<List<Integer>> groups, int[] codeOf, int many, int limit) {
        List<int[]> made = new ArrayList<>();
        for (int c = 0; c < many; c++) {
            int[] often = new int[64];
            for (int symbol : text) {
                often[symbol] = 1;
            }
            for (int g = 0; g < groups.size(); g++) {
                if (codeOf[g] == c) {
                    groups.get(g).forEach(symbol -> often[symbol]++);
                }
            }
            made.add(packages(often, 64, limit));
        }
        return made;
    }

    long group(int g) {
        if (chosenGroups == null) {
            return STATE;
        }
        return in(g, 0, chosenGroups.length - 1) ? chosenGroups[g] : OUTSIDE;
    }

    private static List<Integer> rowOf(int many) {
        List<Integer> row = new ArrayList<>();
        for (int c = 0; c < many; c++) {
            row.add(c);
        }
        return row;
    }

    long write() {
        if (chosenGroups == null) {
            return STATE;
        }
        StringBuilder bits = new StringBuilder();
        List<Integer> row = rowOf(chosenMany);
        for (int code : chosenGroups) {
            int place = row.indexOf(code);
            bits.append("1".repeat(place)).append("0");
            row.add(0, row.remove(place));
        }
        List<String[]> words = new ArrayList<>();
        for (int c = 0; c < chosenMany; c++) {
            int[] lengths = codes.get(chosenFirst + c);
            words.add(kind(lengths) == 4 ? new String[64] : words(lengths));
        }
        for (int i = 0; i < chosenText.size(); i++) {
            String word = words.get(chosenGroups[i / chosenSize])[chosenText.get(i)];
            if (word == null) {
                return STATE;
            }
            bits.append(word);
        }
        return append(bits.toString()) < 0 ? ROOM : bits.length();
    }

    long read(int first, int many, int size, int symbols) {
        if (!known(first)) {
            return UNKNOWN;
        }
        for (long code = first; code < (long) first + many; code++) {
            if (code >= codes.size()) {
                return UNKNOWN;
            }
        }
        if (!in(many, 1, 6) || !in(size, 1, 100) || !in(symbols, 1, 1000)) {
            return OUTSIDE;
        }
        for (int c = 0; c < many; c++) {
            int kind = kind(codes.get(first + c));
            if (kind == 0 || kind == 4) {
                return STATE;
            }
        }
        List<Integer> row = rowOf(many);
        List<Integer> codeOf = new ArrayList<>();
        while (codeOf.size() * size < symbols) {
            int place = 0;
            int bit = number(1);
            while (bit == 1) {
                place++;
                if (place == many) {
                    return BAD;
                }
                bit = number(1);
            }
            if (bit < 0) {
                return ENDED;
            }
            row.add(0, row.remove(place));
            codeOf.add(row.get(0));
        }
        List<Integer> found = new ArrayList<>();
        while (found.size() < symbols) {
            int symbol = symbolOf(codes.get(first + codeOf.get(found.size() / size)));
            if (symbol < 0) {
                return symbol;
            }
            found.add(symbol);
        }
        text = found;
        return symbols;
    }

    long symbol(int i) {
        return in(i, 0, text.size() - 1) ? text.get(i) : THROWS;
    }

    // What a random run likes to know of the state to make calls that are not refused.

    int codesMade() {
        return codes.size();
    }

    int symbolsOf(int code) {
        return known(code) ? codes.get(code).length : 1;
    }

    int entries() {
        return table.size();
    }

    int textSize() {
        return text.size();
    }

    int groups() {
        return chosenGroups == null ? 0 : chosenGroups.length;
    }
}
