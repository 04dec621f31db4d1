import java.util.Random;

/**
 * All promises: random runs of calls, from seeds that are always the same, held against the Model.
 * Each kind of run likes some calls more than others, so that the states behind them are reached.
 */
public final class RandomRunsTest {
    private static final int CALLS = 500;
    private static final String[] NAMES = {
        "code", "length", "about", "word", "count", "countText", "least", "cost",
        "bits", "bit", "clear", "putNumber", "takeNumber", "put", "take", "pack", "unpack",
        "table", "entry", "add", "forget", "choose", "group", "write", "read", "symbol"
    };
    // How often each call comes, in the order of the names.
    private static final int[][] KINDS = {
        {4, 30, 10, 12, 10, 2, 4, 4, 4, 8, 1, 8, 8, 20, 20, 3, 3, 2, 6, 6, 1, 1, 2, 2, 2, 4},
        {3, 20, 4, 2, 20, 1, 3, 3, 4, 8, 1, 6, 4, 2, 2, 20, 20, 0, 0, 0, 0, 0, 0, 0, 0, 0},
        {2, 40, 3, 3, 20, 0, 3, 0, 0, 0, 0, 0, 0, 0, 0, 0, 0, 8, 60, 0, 0, 0, 0, 0, 0, 0},
        {1, 2, 3, 3, 1, 2, 1, 1, 4, 8, 1, 2, 1, 2, 2, 1, 1, 1, 1, 80, 1, 4, 20, 10, 12, 20},
        {3, 25, 5, 5, 0, 0, 0, 0, 3, 3, 1, 30, 3, 10, 30, 6, 25, 0, 0, 2, 1, 1, 1, 3, 10, 3},
        {4, 4, 1, 1, 4, 0, 1, 0, 4, 6, 0, 8, 3, 4, 2, 30, 3, 0, 0, 12, 0, 2, 2, 20, 1, 1},
    };

    private final Random random;
    private final PrefixCodes x = new PrefixCodes();
    private final Model model = new Model();
    private final StringBuilder run = new StringBuilder();
    private final int symbolsLiked;
    private int a, b, c, d, e;
    private boolean flag;

    private RandomRunsTest(long seed) {
        random = new Random(seed);
        symbolsLiked = Check.among(random, 1, 2, 4, 6, 20, 64);
    }

    public static void main(String[] args) {
        for (int seed = 0; seed < 900 && Check.faults() == 0; seed++) {
            new RandomRunsTest(seed).run(seed, KINDS[seed % KINDS.length]);
        }
        Check.end();
    }

    private void run(int seed, int[] weights) {
        int all = 0;
        for (int weight : weights) {
            all += weight;
        }
        for (int i = 0; i < CALLS; i++) {
            int place = random.nextInt(all);
            int which = 0;
            while (place >= weights[which]) {
                place -= weights[which];
                which++;
            }
            prepare(which);
            long want = ofModel(which);
            long got = ofProgram(which);
            if (run.length() < 20000) {
                run.append(NAMES[which]).append(" ").append(a).append(" ").append(b).append(" ").append(c)
                        .append(" ").append(d).append(" ").append(e).append(" ").append(flag)
                        .append(" -> ").append(want).append("\n");
            }
            if (got != want) {
                Check.tell(run + "seed " + seed + ": the last call answered " + got + ", due is " + want);
                return;
            }
        }
    }

    /** Mostly within the bounds, at times at their edges, at times anything. */
    private int near(int from, int to) {
        switch (random.nextInt(40)) {
            case 0:
                return from - 1;
            case 1:
                return to + 1;
            case 2:
                return Check.among(random, -1, 0, 1, Integer.MIN_VALUE, Integer.MAX_VALUE, random.nextInt());
            case 3:
                return from;
            case 4:
                return to;
            default:
                return to < from ? from : from + random.nextInt(to - from + 1);
        }
    }

    private int nearCode() {
        return near(0, model.codesMade() - 1);
    }

    private int likedSymbol() {
        return random.nextInt(30) == 0 ? near(0, 63) : random.nextInt(symbolsLiked);
    }

    private int likedLength() {
        switch (random.nextInt(4)) {
            case 0:
                return near(0, 15);
            case 1:
                return 0;
            default:
                return 2 + random.nextInt(6);
        }
    }

    private void prepare(int which) {
        a = b = c = d = e = 0;
        flag = random.nextBoolean();
        switch (NAMES[which]) {
            case "code":
                a = random.nextInt(3) == 0 ? near(1, 64) : near(1, symbolsLiked);
                break;
            case "length":
                a = nearCode();
                b = near(0, model.symbolsOf(a) - 1);
                c = likedLength();
                break;
            case "about":
                a = nearCode();
                b = near(0, 4);
                break;
            case "word":
            case "put":
                a = nearCode();
                b = near(0, model.symbolsOf(a) - 1);
                break;
            case "count":
                a = random.nextInt(4) == 0 ? near(0, 63) : likedSymbol();
                b = random.nextInt(3) == 0 ? near(0, 1000000) : random.nextInt(12);
                break;
            case "least":
                a = near(1, 64);
                b = near(1, 15);
                break;
            case "cost":
            case "take":
                a = nearCode();
                break;
            case "bit":
                a = near(0, (int) model.bits() - 1);
                break;
            case "putNumber":
                a = random.nextInt();
                b = near(1, 30);
                break;
            case "takeNumber":
                a = near(1, 30);
                break;
            case "pack":
                a = nearCode();
                b = near(0, 2);
                break;
            case "unpack":
                a = random.nextInt(3) == 0 ? near(1, 64) : model.symbolsOf(nearCode());
                b = near(0, 2);
                break;
            case "table":
                a = nearCode();
                b = near(1, 9);
                break;
            case "entry":
                a = near(0, model.entries() - 1);
                b = near(0, 2);
                break;
            case "add":
                a = likedSymbol();
                b = likedSymbol();
                c = likedSymbol();
                d = likedSymbol();
                e = likedSymbol();
                break;
            case "choose":
                a = near(1, 3);
                b = random.nextInt(3) == 0 ? near(1, 100) : near(1, 8);
                c = near(1, 15);
                d = near(0, 8);
                break;
            case "group":
                a = near(0, model.groups() - 1);
                break;
            case "read":
                a = nearCode();
                b = near(1, 4);
                c = random.nextInt(3) == 0 ? near(1, 100) : near(1, 8);
                d = random.nextInt(3) == 0 ? near(1, 1000) : near(1, 20);
                break;
            case "symbol":
                a = near(0, model.textSize() - 1);
                break;
            default:
                break;
        }
    }

    private long ofModel(int which) {
        switch (NAMES[which]) {
            case "code": return model.code(a);
            case "length": return model.length(a, b, c);
            case "about": return model.about(a, b);
            case "word": return model.word(a, b, flag);
            case "count": return model.count(a, b);
            case "countText": return model.countText();
            case "least": return model.least(a, b);
            case "cost": return model.cost(a);
            case "bits": return model.bits();
            case "bit": return model.bit(a);
            case "clear": return model.clear();
            case "putNumber": return model.putNumber(a, b);
            case "takeNumber": return model.takeNumber(a);
            case "put": return model.put(a, b, flag);
            case "take": return model.take(a, flag);
            case "pack": return model.pack(a, b);
            case "unpack": return model.unpack(a, b);
            case "table": return model.table(a, b);
            case "entry": return model.entry(a, b);
            case "add": return model.add(a, b, c, d, e);
            case "forget": return model.forget();
            case "choose": return model.choose(a, b, c, d);
            case "group": return model.group(a);
            case "write": return model.write();
            case "read": return model.read(a, b, c, d);
            default: return model.symbol(a);
        }
    }

    private long ofProgram(int which) {
        try {
            return answer(which);
        } catch (RuntimeException thrown) {
            // One of the machine's own would be below this class; it answers for no call.
            return thrown.getClass() == IndexOutOfBoundsException.class ? Model.THROWS : Model.THROWS + 1;
        }
    }

    private long answer(int which) {
        switch (NAMES[which]) {
            case "code": return x.code(a);
            case "length": return x.length(a, b, c);
            case "about": return x.about(a, b);
            case "word": return x.word(a, b, flag);
            case "count": return x.count(a, b);
            case "countText": return x.countText();
            case "least": return x.least(a, b);
            case "cost": return x.cost(a);
            case "bits": return x.bits();
            case "bit": return x.bit(a);
            case "clear": return x.clear();
            case "putNumber": return x.putNumber(a, b);
            case "takeNumber": return x.takeNumber(a);
            case "put": return x.put(a, b, flag);
            case "take": return x.take(a, flag);
            case "pack": return x.pack(a, b);
            case "unpack": return x.unpack(a, b);
            case "table": return x.table(a, b);
            case "entry": return x.entry(a, b);
            case "add": return x.add(a, b, c, d, e);
            case "forget": return x.forget();
            case "choose": return x.choose(a, b, c, d);
            case "group": return x.group(a);
            case "write": return x.write();
            case "read": return x.read(a, b, c, d);
            default: return x.symbol(a);
        }
    }
}
