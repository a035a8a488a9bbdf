import java.util.Random;

/**
 * Random calls on SharedLink and on PlainModel must have the same answers. The seeds are fixed;
 * other ones: java ModelTest FIRST_SEED SEEDS. Each seed has an object of its own, which is used
 * for at most 512 calls, since nothing is promised behind them.
 */
public final class ModelTest {
    private static final int MOST_CALLS = 512;
    private static final int GLANCES = 12;
    private static final String[] RULES = {"lowest", "buffer", "rate", "mix"};
    private static final String[] NAMES = {"a", "bob", "link", "abcdefgh", "net", "join", "z"};
    private static final String[] ODD = {
        ";", "net", "link", "vary", "join", "player", "lowest", "0", "1", "9999", "00001", "12345", "abcdefghi", "@",
        "A", "-1", "5 5", "7;", "\n", " ", "a", "50", "201", "rate", "mix", "a1", "\u00e9", "\u0000", "\t"};

    private final Random random;
    private final SharedLink x = new SharedLink();
    private final PlainModel m = new PlainModel();
    private int calls;

    private ModelTest(long seed) {
        random = new Random(seed);
    }

    public static void main(String[] args) {
        int first = args.length > 0 ? Integer.parseInt(args[0]) : 1;
        int seeds = args.length > 1 ? Integer.parseInt(args[1]) : 1000;
        for (int seed = first; seed < first + seeds; seed++) {
            new ModelTest(seed).compare(seed);
        }
        Checks.end("ModelTest");
    }

    private void compare(int seed) {
        boolean texts = random.nextInt(8) == 0;
        while (calls < MOST_CALLS) {
            if (calls == 0 || random.nextInt(texts ? 3 : 40) == 0) {
                sayText(seed, texts ? random.nextBoolean() : random.nextInt(5) == 0);
            }
            call(seed);
        }
    }

    private int upTo(int most) {
        return random.nextInt(most + 1);
    }

    private int between(int least, int most) {
        return least + random.nextInt(most - least + 1);
    }

    private String text() {
        StringBuilder t = new StringBuilder("net ");
        boolean wide = random.nextInt(6) == 0;
        t.append(between(1, wide ? 20 : 5)).append(' ').append(between(1, wide ? 60 : 8)).append(' ');
        t.append(between(1, wide ? 200 : 30)).append(' ').append(between(10, 100)).append(';');
        int players = upTo(4);
        int pieces = random.nextInt(4) == 0 ? upTo(8) : upTo(3);
        int varyAt = random.nextInt(3) == 0 ? upTo(players) : -1;
        int scale = new int[] {10, 100, 1000, 4000}[upTo(3)];
        for (int p = 0; p <= players; p++) {
            if (p == varyAt) {
                t.append("vary");
                for (int i = between(1, 4); i > 0; i--) t.append(' ').append(between(50, 200));
                t.append(';');
            }
            for (; pieces > 0 && (p == players || random.nextBoolean()); pieces--) {
                int rate = random.nextInt(4) == 0 ? 0 : between(0, Math.min(9999, 2 * scale));
                t.append("link ").append(between(1, wide ? 200 : 20)).append(' ').append(rate).append(';');
            }
            if (p == players) break;
            t.append("player ").append(NAMES[(p + seedOfNames) % NAMES.length]).append(' ').append(RULES[upTo(3)]);
            t.append(' ').append(between(1, random.nextInt(3) == 0 ? 30 : 8)).append(' ').append(between(1, 9));
            int size = 0;
            for (int i = between(1, 4); i > 0; i--) {
                size += between(1, Math.min(2400, scale));
                t.append(' ').append(size);
            }
            t.append(';');
            if (random.nextInt(3) == 0) {
                t.append("join ").append(NAMES[(upTo(p) + seedOfNames) % NAMES.length]).append(' ');
                t.append(random.nextInt(5) == 0 ? upTo(999) : upTo(30)).append(';');
            }
        }
        return t.toString();
    }

    private int seedOfNames;

    private String spoiled(String text) {
        StringBuilder t = new StringBuilder(text);
        for (int i = between(1, 2); i > 0; i--) {
            int at = upTo(t.length() - 1);
            switch (upTo(4)) {
                case 0: t.deleteCharAt(at); break;
                case 1: t.insert(at, ODD[random.nextInt(ODD.length)]); break;
                case 2: t.insert(at, " " + ODD[random.nextInt(ODD.length)] + " "); break;
                case 3: t.setCharAt(at, ODD[random.nextInt(ODD.length)].charAt(0)); break;
                default:
                    int from = Math.max(0, t.lastIndexOf(";", at) + 1);
                    int to = t.indexOf(";", from) + 1;
                    if (to > from) t.insert(from, t.substring(from, to));
            }
            if (t.length() == 0) t.append(' ');
        }
        return t.toString();
    }

    private void sayText(int seed, boolean spoil) {
        seedOfNames = upTo(6);
        String text = text();
        if (spoil) text = spoiled(text);
        if (random.nextInt(5) == 0) text = text.replace(" ", "\n ").replace(";", " ; ");
        if (random.nextInt(9) == 0) text = text.substring(0, upTo(text.length()));
        put(seed, text);
        int length = random.nextInt(30) == 0 ? between(-1, 620) : Math.min(600, text.length());
        same(seed, "parse " + length + " of " + text, () -> x.parse(length), () -> m.parse(length));
        same(seed, "errorPosition", x::errorPosition, m::errorPosition);
    }

    private void put(int seed, String text) {
        byte[] bytes = text.getBytes(java.nio.charset.StandardCharsets.ISO_8859_1);
        for (int i = 0; i < bytes.length; i += 20) {
            int[] w = new int[5];
            for (int j = 0; j < 5; j++) w[j] = Checks.four(bytes, i + 4 * j);
            same(seed, "append", () -> x.append(w[0], w[1], w[2], w[3], w[4]), () -> m.append(w[0], w[1], w[2], w[3], w[4]));
        }
    }

    private int number(int most) {
        int odd = random.nextInt(25);
        if (odd == 0) return -1;
        if (odd == 1) return most + 1;
        if (odd == 2) return random.nextBoolean() ? Integer.MAX_VALUE : Integer.MIN_VALUE;
        return upTo(Math.max(0, most));
    }

    private void call(int seed) {
        int p = number(m.size(0) - 1);
        switch (upTo(random.nextInt(4) == 0 ? 30 : 16)) {
            case 0: case 1: case 2: case 3: {
                int ticks = random.nextInt(6) == 0 ? number(200) : random.nextInt(3) == 0 ? 1 : between(1, 12);
                same(seed, "run " + ticks, () -> x.run(ticks), () -> m.run(ticks));
                glances(seed);
                break;
            }
            case 4: {
                int rule = number(3);
                same(seed, "setRule " + p + " " + rule, () -> x.setRule(p, rule), () -> m.setRule(p, rule));
                break;
            }
            case 5: {
                int weight = number(9);
                same(seed, "setWeight " + p + " " + weight, () -> x.setWeight(p, weight), () -> m.setWeight(p, weight));
                break;
            }
            case 6: {
                int piece = number(m.size(1) - 1);
                int rate = random.nextBoolean() ? number(9999) : number(500);
                same(seed, "setRate " + piece + " " + rate, () -> x.setRate(piece, rate), () -> m.setRate(piece, rate));
                break;
            }
            case 7:
                if (random.nextInt(4) == 0) same(seed, "quit " + p, () -> x.quit(p), () -> m.quit(p));
                break;
            case 8: case 9: same(seed, "undo", x::undo, m::undo); glances(seed); break;
            case 10: {
                int slot = number(1);
                same(seed, "saveSnapshot " + slot, () -> x.saveSnapshot(slot), () -> m.saveSnapshot(slot));
                break;
            }
            case 11: {
                int slot = number(1);
                same(seed, "restoreSnapshot " + slot, () -> x.restoreSnapshot(slot), () -> m.restoreSnapshot(slot));
                glances(seed);
                break;
            }
            case 12: {
                int what = number(5);
                same(seed, "forecast " + p + " " + what, () -> x.forecast(p, what), () -> m.forecast(p, what));
                break;
            }
            case 13: same(seed, "steadyQuality " + p, () -> x.steadyQuality(p), () -> m.steadyQuality(p)); break;
            case 14: {
                int k = number(5);
                same(seed, "oracle " + p + " " + k, () -> x.oracle(p, k), () -> m.oracle(p, k));
                break;
            }
            case 15: same(seed, "regret " + p, () -> x.regret(p), () -> m.regret(p)); break;
            case 16: same(seed, "leastRate", x::leastRate, m::leastRate); break;
            case 17: {
                String name = NAMES[random.nextInt(NAMES.length)];
                put(seed, random.nextInt(4) == 0 ? ODD[random.nextInt(ODD.length)] + name : name);
                same(seed, "find " + name, x::find, m::find);
                break;
            }
            case 18: same(seed, "errorPosition", x::errorPosition, m::errorPosition); break;
            default: glance(seed);
        }
    }

    private void glances(int seed) {
        for (int i = 0; i < GLANCES; i++) {
            glance(seed);
        }
    }

    /** A call that changes nothing, where an answer is likely. */
    private void glance(int seed) {
        int p = number(m.size(0) - 1);
        switch (upTo(10)) {
            case 0: {
                int tick = number(40);
                same(seed, "rate " + tick, () -> x.rate(tick), () -> m.rate(tick));
                break;
            }
            case 1: {
                int what = number(10);
                same(seed, "size " + what, () -> x.size(what), () -> m.size(what));
                break;
            }
            case 2: {
                int what = number(3);
                same(seed, "account " + what, () -> x.account(what), () -> m.account(what));
                break;
            }
            case 3: {
                int k = number(has(p) ? m.player(p, 2) : 0);
                int part = number(3);
                same(seed, "loaded " + p + " " + k + " " + part, () -> x.loaded(p, k, part), () -> m.loaded(p, k, part));
                break;
            }
            case 4: {
                int segment = number(has(p) ? m.player(p, 14) - 1 : 0);
                int quality = number(has(p) ? m.player(p, 15) - 1 : 0);
                same(seed, "sizeOf " + p + " " + segment + " " + quality, () -> x.sizeOf(p, segment, quality), () -> m.sizeOf(p, segment, quality));
                break;
            }
            case 5: same(seed, "wouldChoose " + p, () -> x.wouldChoose(p), () -> m.wouldChoose(p)); break;
            case 6: same(seed, "share " + p, () -> x.share(p), () -> m.share(p)); break;
            case 7: {
                same(seed, "fairness", x::fairness, m::fairness);
                same(seed, "meanQuality " + p, () -> x.meanQuality(p), () -> m.meanQuality(p));
                same(seed, "isWhole", x::isWhole, m::isWhole);
                break;
            }
            default: {
                int what = number(16);
                same(seed, "player " + p + " " + what, () -> x.player(p, what), () -> m.player(p, what));
            }
        }
    }

    private boolean has(int p) {
        return p >= 0 && p < m.size(0);
    }

    private void same(int seed, String what, Checks.Call call, Checks.Call model) {
        if (calls == MOST_CALLS) {
            return;
        }
        calls++;
        Checks.due("seed " + seed + ": " + what, Checks.told(model), call);
    }
}
