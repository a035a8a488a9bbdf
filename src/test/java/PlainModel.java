import java.nio.charset.StandardCharsets;
import java.util.ArrayDeque;
import java.util.ArrayList;
import java.util.Arrays;
import java.util.Deque;
import java.util.HashMap;
import java.util.List;
import java.util.Map;

/**
 * The document once more, in the plainest form and without regard to speed: each forecast is a deep
 * copy that runs to its very end. ModelTest compares SharedLink with it.
 */
final class PlainModel {
    static final int NONE = -1;

    static final class Viewer {
        String name;
        int rule, segments, weight, join, state, buffer, loadingQuality = NONE, missing, askedIn;
        int played, stalled, stalls, switches, sum, got, measured;
        List<Integer> sizes = new ArrayList<>();
        List<int[]> loaded = new ArrayList<>();
        Map<Integer, Integer> forced = new HashMap<>();

        Viewer copy() {
            Viewer v = new Viewer();
            v.name = name; v.rule = rule; v.segments = segments; v.weight = weight; v.join = join;
            v.state = state; v.buffer = buffer; v.loadingQuality = loadingQuality; v.missing = missing;
            v.askedIn = askedIn; v.played = played; v.stalled = stalled; v.stalls = stalls;
            v.switches = switches; v.sum = sum; v.got = got; v.measured = measured;
            v.sizes = new ArrayList<>(sizes);
            for (int[] row : loaded) v.loaded.add(row.clone());
            v.forced = new HashMap<>(forced);
            return v;
        }

        int asked() { return loaded.size() + (loadingQuality != NONE ? 1 : 0); }
        boolean over() { return state == 3 || state == 4; }
    }

    static final class World {
        int length = 1, start = 1, full = 1, safety = 10, time, through, unused, fixedRate = NONE;
        List<Integer> percents = new ArrayList<>();
        List<int[]> pieces = new ArrayList<>();
        List<Viewer> viewers = new ArrayList<>();

        World copy() {
            World w = new World();
            w.length = length; w.start = start; w.full = full; w.safety = safety; w.time = time;
            w.through = through; w.unused = unused; w.fixedRate = fixedRate;
            w.percents = new ArrayList<>(percents);
            for (int[] piece : pieces) w.pieces.add(piece.clone());
            for (Viewer v : viewers) w.viewers.add(v.copy());
            return w;
        }

        int size(Viewer v, int segment, int quality) {
            int percent = percents.isEmpty() ? 100 : percents.get(segment % percents.size());
            return Math.max(1, v.sizes.get(quality) * percent / 100);
        }

        int rate(int tick) {
            if (fixedRate != NONE) return fixedRate;
            if (pieces.isEmpty()) return 100;
            int total = 0;
            for (int[] piece : pieces) total += piece[0];
            int end = 0, i = -1;
            while (end <= tick % total) end += pieces.get(++i)[0];
            return pieces.get(i)[1];
        }

        int choice(Viewer v) {
            int segment = v.asked();
            if (v.forced.containsKey(segment)) return v.forced.get(segment);
            int byBuffer = Math.min(v.buffer * v.sizes.size() / full, v.sizes.size() - 1);
            int byRate = 0;
            for (int q = 0; q < v.sizes.size(); q++) {
                if (size(v, segment, q) * 100 <= v.measured * length * safety) byRate = q;
            }
            if (v.rule == 0) return 0;
            if (v.rule == 1) return byBuffer;
            if (v.rule == 2) return byRate;
            return Math.min(byBuffer, byRate);
        }

        void tick() {
            for (Viewer v : viewers) {
                boolean can = v.state != 4 && time >= v.join && v.loadingQuality == NONE
                        && v.loaded.size() < v.segments && (v.buffer == 0 || v.buffer + length <= full);
                if (can) {
                    v.loadingQuality = choice(v);
                    v.missing = size(v, v.loaded.size(), v.loadingQuality);
                    v.askedIn = time;
                }
            }
            distribute();
            for (Viewer v : viewers) {
                if (v.state == 4 || v.loadingQuality == NONE || v.missing > 0) continue;
                int size = size(v, v.loaded.size(), v.loadingQuality);
                if (!v.loaded.isEmpty() && v.loaded.get(v.loaded.size() - 1)[0] != v.loadingQuality) v.switches++;
                v.sum += v.loadingQuality;
                v.measured = size / (time - v.askedIn + 1);
                v.loaded.add(new int[] {v.loadingQuality, size, v.askedIn, time});
                v.loadingQuality = NONE;
                v.buffer += length;
            }
            for (Viewer v : viewers) {
                if (v.state == 4 || time < v.join) continue;
                boolean all = v.loaded.size() == v.segments;
                if ((v.state == 0 || v.state == 2) && (v.buffer >= start || all)) v.state = 1;
                if (v.state == 1) {
                    if (v.buffer != 0) { v.buffer--; v.played++; }
                    else if (!all) { v.state = 2; v.stalls++; }
                }
                if (v.state == 2) v.stalled++;
                if (all && v.buffer == 0) v.state = 3;
            }
            time++;
        }

        void distribute() {
            int left = rate(time);
            while (true) {
                List<Viewer> needy = new ArrayList<>();
                int sum = 0;
                for (Viewer v : viewers) {
                    if (v.state != 4 && v.loadingQuality != NONE && v.missing > 0) { needy.add(v); sum += v.weight; }
                }
                if (left == 0 || needy.isEmpty()) break;
                int before = left;
                for (Viewer v : needy) {
                    int part = Math.min(before * v.weight / sum, v.missing);
                    v.missing -= part; v.got += part; through += part; left -= part;
                }
                if (left == before) {
                    for (Viewer v : needy) {
                        if (left > 0) { v.missing--; v.got++; through++; left--; }
                    }
                }
            }
            unused += left;
        }

        World end() {
            World w = copy();
            while (w.time < 2000) {
                boolean over = true;
                for (Viewer v : w.viewers) over &= v.over();
                if (over) break;
                w.tick();
            }
            return w;
        }
    }

    World world = new World();
    byte[] buffer = new byte[0];
    int position = NONE;
    Deque<World> past = new ArrayDeque<>();
    World[] slots = new World[2];

    // ---- text

    int append(int a, int b, int c, int d, int e) {
        if (buffer.length + 20 > 600) return NONE;
        java.nio.ByteBuffer more = java.nio.ByteBuffer.allocate(buffer.length + 20);
        more.put(buffer).putInt(a).putInt(b).putInt(c).putInt(d).putInt(e);
        buffer = more.array();
        return buffer.length;
    }

    /** Throws the code and the position of a parse error. */
    static final class Wrong extends Exception {
        private static final long serialVersionUID = 1;
        final int code, at;
        Wrong(int code, int at) { this.code = code; this.at = at; }
    }

    static final class Parser {
        final List<String> tokens = new ArrayList<>();
        final List<Integer> starts = new ArrayList<>();
        int i;
        World w = new World();
        boolean varied;
        List<String> joined = new ArrayList<>();

        Parser(String text) {
            java.util.regex.Matcher m = java.util.regex.Pattern.compile("[a-z]+|[0-9]+|[^ \n]", java.util.regex.Pattern.DOTALL).matcher(text);
            while (m.find()) { tokens.add(m.group()); starts.add(m.start()); }
            tokens.add(""); starts.add(text.length());
        }

        boolean word() { return tokens.get(i).matches("[a-z]{1,8}"); }
        boolean number() { return tokens.get(i).matches("[0-9]{1,4}"); }
        Wrong wrong(int code) { return new Wrong(code, starts.get(i)); }
        void word(String w) throws Wrong { if (!tokens.get(i).equals(w)) throw wrong(1); i++; }
        int value(int low, int high) throws Wrong {
            if (!number()) throw wrong(1);
            int n = Integer.parseInt(tokens.get(i));
            if (n < low || n > high) throw wrong(3);
            return n;
        }
        int take(int low, int high) throws Wrong { int n = value(low, high); i++; return n; }
        Viewer named(String name) { for (Viewer v : w.viewers) if (v.name.equals(name)) return v; return null; }

        World parse() throws Wrong {
            word("net");
            w.length = take(1, 20); w.start = take(1, 60); w.full = take(1, 200); w.safety = take(10, 100);
            word(";");
            while (!tokens.get(i).isEmpty()) { statement(); word(";"); }
            return w;
        }

        void statement() throws Wrong {
            String first = tokens.get(i);
            if (first.equals("link")) {
                if (w.pieces.size() == 8) throw wrong(5);
                i++;
                int ticks = take(1, 200);
                w.pieces.add(new int[] {ticks, take(0, 9999)});
            } else if (first.equals("vary")) {
                if (varied) throw wrong(2);
                varied = true;
                i++;
                w.percents.add(take(50, 200));
                while (number()) {
                    int n = value(50, 200);
                    if (w.percents.size() == 4) throw wrong(5);
                    w.percents.add(n);
                    i++;
                }
            } else if (first.equals("join")) {
                i++;
                if (!word()) throw wrong(1);
                Viewer v = named(tokens.get(i));
                if (v == null) throw wrong(4);
                if (joined.contains(v.name)) throw wrong(2);
                joined.add(v.name);
                i++;
                v.join = take(0, 999);
            } else if (first.equals("player")) {
                if (w.viewers.size() == 4) throw wrong(5);
                i++;
                Viewer v = new Viewer();
                if (!word()) throw wrong(1);
                if (named(tokens.get(i)) != null) throw wrong(2);
                v.name = tokens.get(i++);
                v.rule = Arrays.asList("lowest", "buffer", "rate", "mix").indexOf(tokens.get(i));
                if (v.rule < 0) throw wrong(1);
                i++;
                v.segments = take(1, 30);
                v.weight = take(1, 9);
                v.sizes.add(take(1, 9999));
                while (number()) {
                    int n = value(1, 9999);
                    if (v.sizes.size() == 4) throw wrong(5);
                    if (n <= v.sizes.get(v.sizes.size() - 1)) throw wrong(6);
                    v.sizes.add(n);
                    i++;
                }
                w.viewers.add(v);
            } else throw wrong(1);
        }
    }

    int parse(int length) {
        if (length < 0 || length > buffer.length) throw new IllegalArgumentException();
        String text = new String(buffer, 0, length, StandardCharsets.ISO_8859_1);
        buffer = new byte[0];
        try {
            world = new Parser(text).parse();
        } catch (Wrong e) {
            position = e.at;
            return e.code;
        }
        position = NONE;
        past.clear();
        slots = new World[2];
        return 0;
    }

    int errorPosition() { return position; }

    int size(int what) {
        switch (what) {
            case 0: return world.viewers.size();
            case 1: return world.pieces.size();
            case 2: return world.length;
            case 3: return world.start;
            case 4: return world.full;
            case 5: return world.safety;
            case 6: return world.percents.size();
            case 7: return world.time;
            case 8: return (int) world.viewers.stream().filter(v -> v.state != 4 && v.loadingQuality != NONE).count();
            case 9: return (int) world.viewers.stream().filter(v -> v.state == 3).count();
            case 10: return past.size();
            default: throw new IllegalArgumentException();
        }
    }

    int find() {
        String text = new String(buffer, StandardCharsets.ISO_8859_1).replaceAll("(?s) +\\z", "");
        buffer = new byte[0];
        for (int p = 0; p < world.viewers.size(); p++) if (world.viewers.get(p).name.equals(text)) return p;
        return NONE;
    }

    int rate(int tick) {
        if (tick < 0) throw new IllegalArgumentException();
        return world.rate(tick);
    }

    // ---- players

    Viewer viewer(int p) {
        if (p < 0 || p >= world.viewers.size()) throw new IndexOutOfBoundsException();
        return world.viewers.get(p);
    }

    int player(int p, int what) {
        Viewer v = viewer(p);
        if (what < 0 || what > 16) throw new IllegalArgumentException();
        int[] all = {v.state, v.buffer, v.loaded.size(), v.loadingQuality, v.missing, v.played, v.stalled, v.stalls,
            v.switches, v.sum, v.got, v.measured, v.rule, v.weight, v.segments, v.sizes.size(), v.join};
        return all[what];
    }

    int loaded(int p, int k, int part) {
        Viewer v = viewer(p);
        if (part < 0 || part > 3) throw new IllegalArgumentException();
        return k < 0 || k >= v.loaded.size() ? NONE : v.loaded.get(k)[part];
    }

    int sizeOf(int p, int segment, int quality) {
        Viewer v = viewer(p);
        if (segment < 0 || segment >= v.segments || quality < 0 || quality >= v.sizes.size()) throw new IllegalArgumentException();
        return world.size(v, segment, quality);
    }

    // ---- what would be

    int wouldChoose(int p) {
        Viewer v = viewer(p);
        return v.state == 4 || v.asked() == v.segments ? NONE : world.choice(v);
    }

    int share(int p) {
        Viewer v = viewer(p);
        World w = world.copy();
        w.tick();
        return w.viewers.get(p).got - v.got;
    }

    int forecast(int p, int what) {
        viewer(p);
        if (what < 0 || what > 5) throw new IllegalArgumentException();
        World w = world.end();
        Viewer v = w.viewers.get(p);
        return new int[] {v.stalled, v.stalls, v.switches, v.sum, v.loaded.size(), w.time}[what];
    }

    boolean steady(int p, Map<Integer, Integer> forced) {
        World w = world.copy();
        w.viewers.get(p).forced = forced;
        Viewer v = w.end().viewers.get(p);
        return v.state == 3 && v.stalled == world.viewers.get(p).stalled;
    }

    int steadyQuality(int p) {
        Viewer v = viewer(p);
        if (v.state == 4 || v.asked() == v.segments) return NONE;
        for (int q = v.sizes.size() - 1; q >= 0; q--) {
            Map<Integer, Integer> forced = new HashMap<>();
            for (int k = v.asked(); k < v.segments; k++) forced.put(k, q);
            if (steady(p, forced)) return q;
        }
        return NONE;
    }

    Map<Integer, Integer> plan(int p) {
        Viewer v = viewer(p);
        Map<Integer, Integer> forced = new HashMap<>();
        for (int k = v.asked(); k < v.segments; k++) forced.put(k, 0);
        for (int k = v.asked(); k < v.segments; k++) {
            for (int q = v.sizes.size() - 1; q >= 0; q--) {
                forced.put(k, q);
                if (steady(p, forced)) break;
            }
        }
        return forced;
    }

    int oracle(int p, int k) {
        Viewer v = viewer(p);
        if (v.state == 4 || k < 0 || k >= v.segments - v.asked()) return NONE;
        return plan(p).get(v.asked() + k);
    }

    int regret(int p) {
        Viewer v = viewer(p);
        if (v.state == 4) return 0;
        World w = world.copy();
        w.viewers.get(p).forced = plan(p);
        return w.end().viewers.get(p).sum - world.end().viewers.get(p).sum;
    }

    int leastRate() {
        for (int rate = 0; rate <= 9900; rate += 100) {
            World w = world.copy();
            w.fixedRate = rate;
            w = w.end();
            boolean good = true;
            for (int p = 0; p < world.viewers.size(); p++) {
                if (world.viewers.get(p).state == 4) continue;
                good &= w.viewers.get(p).state == 3 && w.viewers.get(p).stalled == world.viewers.get(p).stalled;
            }
            if (good) return rate;
        }
        return NONE;
    }

    // ---- sums

    double fairness() {
        double sum = 0.0, squares = 0.0;
        boolean any = false;
        for (Viewer v : world.viewers) {
            double b = (double) v.got / v.weight;
            sum += b;
            squares += b * b;
            any |= v.got > 0;
        }
        return any ? sum * sum / (world.viewers.size() * squares) : 1.0;
    }

    double meanQuality(int p) {
        Viewer v = viewer(p);
        return v.loaded.isEmpty() ? 0.0 : (double) v.sum / v.loaded.size();
    }

    boolean isWhole() { return true; }

    int account(int what) {
        switch (what) {
            case 0: return world.through;
            case 1: return world.unused;
            case 2: return world.viewers.stream().mapToInt(v -> v.stalled).sum();
            case 3: return world.viewers.stream().mapToInt(v -> v.loaded.size()).sum();
            default: throw new IllegalArgumentException();
        }
    }

    // ---- changes

    void keep() {
        past.addLast(world.copy());
        if (past.size() > 10) past.removeFirst();
    }

    int run(int ticks) {
        if (ticks < 1 || ticks > 200) throw new IllegalArgumentException();
        if (world.time + ticks > 2000) throw new IllegalStateException();
        keep();
        for (int i = 0; i < ticks; i++) world.tick();
        return world.time;
    }

    int setRule(int p, int rule) {
        viewer(p);
        if (rule < 0 || rule > 3) throw new IllegalArgumentException();
        keep();
        int old = viewer(p).rule;
        viewer(p).rule = rule;
        return old;
    }

    int setWeight(int p, int weight) {
        viewer(p);
        if (weight < 1 || weight > 9) throw new IllegalArgumentException();
        keep();
        int old = viewer(p).weight;
        viewer(p).weight = weight;
        return old;
    }

    int setRate(int piece, int rate) {
        if (piece < 0 || piece >= world.pieces.size()) throw new IndexOutOfBoundsException();
        if (rate < 0 || rate > 9999) throw new IllegalArgumentException();
        keep();
        int old = world.pieces.get(piece)[1];
        world.pieces.get(piece)[1] = rate;
        return old;
    }

    int quit(int p) {
        Viewer v = viewer(p);
        if (v.over()) throw new IllegalStateException();
        keep();
        v.state = 4;
        return v.loadingQuality == NONE ? 0 : world.size(v, v.loaded.size(), v.loadingQuality) - v.missing;
    }

    int undo() {
        if (past.isEmpty()) return NONE;
        world = past.removeLast();
        return past.size();
    }

    boolean saveSnapshot(int slot) {
        if (slot < 0 || slot > 1) throw new IndexOutOfBoundsException();
        boolean earlier = slots[slot] != null;
        slots[slot] = world.copy();
        return earlier;
    }

    int restoreSnapshot(int slot) {
        if (slot < 0 || slot > 1) throw new IndexOutOfBoundsException();
        if (slots[slot] == null) throw new IllegalStateException();
        world = slots[slot].copy();
        past.clear();
        return world.time;
    }
}
