/**
 * Players that share one link: videos of segments in several qualities, buffers that fill and run
 * empty, stalls, rules that choose the quality of the next segment, a link with changing rates
 * that is shared by weights, and what a player that knew the future could choose.
 */
public final class SharedLink {
    /** Returned if there is no result. */
    public static final int NONE = -1;

    private static final int MOST_BYTES = 600;
    private static final int BYTES_OF_APPEND = 20;
    private static final int MOST_PIECES = 8;
    private static final int MOST_PERCENTS = 4;
    private static final int MOST_PLAYERS = 4;
    private static final int MOST_QUALITIES = 4;
    private static final int MOST_SEGMENTS = 30;
    private static final int MOST_TICKS = 200;
    private static final int MOST_RATE = 9999;
    private static final int MOST_WEIGHT = 9;
    private static final int MOST_CHANGES = 10;
    private static final int SLOTS = 2;
    private static final int LAST_TIME = 2000;
    private static final int RATE_WITHOUT_PIECES = 100;
    private static final int HUNDRED_PERCENT = 100;
    private static final int STEP_OF_LEAST_RATE = 100;
    private static final int GREATEST_LEAST_RATE = 9900;

    // What a player is doing, numbered as player(.., 0) answers it; a seat that no player has is ABSENT.
    private static final int STARTING = 0;
    private static final int PLAYING = 1;
    private static final int STALLED = 2;
    private static final int DONE = 3;
    private static final int QUIT = 4;
    private static final int ABSENT = 5;

    // The rules, numbered as player(.., 12) answers them.
    private static final int LOWEST = 0;
    private static final int BUFFER = 1;
    private static final int RATE = 2;
    private static final int MIX = 3;

    private final Reader reader;
    private final Net net;
    private final State now;
    private final Outlook outlook;
    private final History history;
    private final State[] slots;
    private final boolean[] slotFilled;

    /** Creates a net as with the text "net 1 1 1 10;", with an empty input buffer. */
    public SharedLink() {
        reader = new Reader();
        net = new Net();
        now = new State(net);
        outlook = new Outlook(now);
        history = new History(net);
        slots = new State[SLOTS];
        for (int slot = 0; slot < slots.length; slot++) {
            slots[slot] = new State(net);
        }
        slotFilled = new boolean[SLOTS];
        now.begin();
    }

    // ---- text

    public int append(int a, int b, int c, int d, int e) {
        if (!reader.hasRoom()) {
            return NONE;
        }
        reader.addBytes(a);
        reader.addBytes(b);
        reader.addBytes(c);
        reader.addBytes(d);
        reader.addBytes(e);
        return reader.filled;
    }

    public int parse(int length) throws IllegalArgumentException {
        if (length < 0 || length > reader.filled) {
            throw new IllegalArgumentException();
        }
        int code = reader.readText(length);
        if (code == 0) {
            net.copyFrom(reader.draft);
            now.begin();
            history.clear();
            for (int slot = 0; slot < slotFilled.length; slot++) {
                slotFilled[slot] = false;
            }
        }
        return code;
    }

    public int errorPosition() {
        return reader.errorPosition;
    }

    public int size(int what) throws IllegalArgumentException {
        switch (what) {
            case 0: return net.players;
            case 1: return net.pieces;
            case 2: return net.length;
            case 3: return net.start;
            case 4: return net.full;
            case 5: return net.safety;
            case 6: return net.percents;
            case 7: return now.time;
            case 8: return now.countLoading();
            case 9: return now.countDone();
            case 10: return history.count;
            default: throw new IllegalArgumentException();
        }
    }

    public int find() {
        long name = reader.readName();
        return name == 0 ? NONE : net.indexOfName(name);
    }

    public int rate(int tick) throws IllegalArgumentException {
        if (tick < 0) {
            throw new IllegalArgumentException();
        }
        return now.rateAt(tick);
    }

    // ---- players

    public int player(int player, int what) throws IndexOutOfBoundsException, IllegalArgumentException {
        Player seat = seatOf(player);
        switch (what) {
            case 0: return seat.state;
            case 1: return seat.buffer;
            case 2: return seat.count;
            case 3: return seat.quality;
            case 4: return seat.missing;
            case 5: return seat.played;
            case 6: return seat.stalled;
            case 7: return seat.stalls;
            case 8: return seat.countSwitches();
            case 9: return seat.sumOfQualities();
            case 10: return seat.got;
            case 11: return seat.measured;
            case 12: return seat.rule;
            case 13: return seat.weight;
            case 14: return seat.video.segments;
            case 15: return seat.video.qualities;
            case 16: return seat.video.join;
            default: throw new IllegalArgumentException();
        }
    }

    public int loaded(int player, int k, int part) throws IndexOutOfBoundsException, IllegalArgumentException {
        Player seat = seatOf(player);
        if (part < 0 || part > 3) {
            throw new IllegalArgumentException();
        }
        if (k < 0 || k >= seat.count || k >= MOST_SEGMENTS) {
            return NONE;
        }
        switch (part) {
            case 0: return seat.qualities[k];
            case 1: return seat.video.sizeOfSegment(k, seat.qualities[k]);
            case 2: return seat.askedIn[k];
            default: return seat.cameIn[k];
        }
    }

    public int sizeOf(int player, int segment, int quality) throws IndexOutOfBoundsException, IllegalArgumentException {
        Video video = seatOf(player).video;
        if (segment < 0 || segment >= video.segments || quality < 0 || quality >= video.qualities) {
            throw new IllegalArgumentException();
        }
        return video.sizeOfSegment(segment, quality);
    }

    // ---- what would be; nothing changes

    public int wouldChoose(int player) throws IndexOutOfBoundsException {
        Player seat = seatOf(player);
        return seat.segmentsToAsk() == 0 ? NONE : seat.choose();
    }

    public int share(int player) throws IndexOutOfBoundsException {
        Player seat = seatOf(player);
        return outlook.afterOneTick().seat(player).got - seat.got;
    }

    public int forecast(int player, int what) throws IndexOutOfBoundsException, IllegalArgumentException {
        testPlayer(player);
        if (what < 0 || what > 5) {
            throw new IllegalArgumentException();
        }
        State end = outlook.atEnd();
        Player seat = end.seat(player);
        switch (what) {
            case 0: return seat.stalled;
            case 1: return seat.stalls;
            case 2: return seat.countSwitches();
            case 3: return seat.sumOfQualities();
            case 4: return seat.count;
            default: return end.time;
        }
    }

    public int steadyQuality(int player) throws IndexOutOfBoundsException {
        Player seat = seatOf(player);
        return seat.segmentsToAsk() == 0 ? NONE : outlook.greatestSteadyQuality(player);
    }

    public int oracle(int player, int k) throws IndexOutOfBoundsException {
        Player seat = seatOf(player);
        if (k < 0 || k >= seat.segmentsToAsk()) {
            return NONE;
        }
        int segment = seat.segmentsAsked() + k;
        outlook.planAsOracle(player, segment);
        return outlook.planned(segment);
    }

    public int regret(int player) throws IndexOutOfBoundsException {
        Player seat = seatOf(player);
        if (seat.segmentsToAsk() == 0) {
            return 0;
        }
        int byRule = outlook.atEnd().seat(player).sumOfQualities();
        outlook.planAsOracle(player, seat.video.segments - 1);
        return outlook.atEndAsPlanned(player).sumOfQualities() - byRule;
    }

    public int leastRate() {
        return outlook.leastSteadyRate();
    }

    // ---- sums

    public double fairness() {
        double sum = 0.0;
        double squares = 0.0;
        for (Player seat : now.players) {
            if (seat.weight > 0) {
                double part = (double) seat.got / (double) seat.weight;
                sum += part;
                squares += part * part;
            }
        }
        return squares > 0.0 && net.players > 0 ? sum * sum / (net.players * squares) : 1.0;
    }

    public double meanQuality(int player) throws IndexOutOfBoundsException {
        Player seat = seatOf(player);
        return seat.count > 0 ? (double) seat.sumOfQualities() / seat.count : 0.0;
    }

    public boolean isWhole() {
        return now.addsUp();
    }

    public int account(int what) throws IllegalArgumentException {
        switch (what) {
            case 0: return now.carried;
            case 1: return now.unused;
            case 2: return now.ticksStalled();
            case 3: return now.segmentsCome();
            default: throw new IllegalArgumentException();
        }
    }

    // ---- changes

    public int run(int ticks) throws IllegalArgumentException, IllegalStateException {
        if (ticks < 1 || ticks > MOST_TICKS) {
            throw new IllegalArgumentException();
        }
        if (now.time + ticks > LAST_TIME) {
            throw new IllegalStateException();
        }
        history.keep(now);
        for (int tick = 0; tick < ticks; tick++) {
            now.passTick();
        }
        return now.time;
    }

    public int setRule(int player, int rule) throws IndexOutOfBoundsException, IllegalArgumentException {
        Player seat = seatOf(player);
        if (rule < LOWEST || rule > MIX) {
            throw new IllegalArgumentException();
        }
        history.keep(now);
        int previous = seat.rule;
        seat.rule = rule;
        return previous;
    }

    public int setWeight(int player, int weight) throws IndexOutOfBoundsException, IllegalArgumentException {
        Player seat = seatOf(player);
        if (weight < 1 || weight > MOST_WEIGHT) {
            throw new IllegalArgumentException();
        }
        history.keep(now);
        int previous = seat.weight;
        seat.weight = weight;
        return previous;
    }

    public int setRate(int piece, int rate) throws IndexOutOfBoundsException, IllegalArgumentException {
        if (piece < 0 || piece >= net.pieces || piece >= now.rates.length) {
            throw new IndexOutOfBoundsException();
        }
        if (rate < 0 || rate > MOST_RATE) {
            throw new IllegalArgumentException();
        }
        history.keep(now);
        int previous = now.rates[piece];
        now.rates[piece] = rate;
        return previous;
    }

    public int quit(int player) throws IndexOutOfBoundsException, IllegalStateException {
        Player seat = seatOf(player);
        if (!seat.isActive()) {
            throw new IllegalStateException();
        }
        history.keep(now);
        seat.state = QUIT;
        return seat.bytesOfLoad();
    }

    // ---- undo and snapshots

    public int undo() {
        return history.takeBack(now) ? history.count : NONE;
    }

    public boolean saveSnapshot(int slot) throws IndexOutOfBoundsException {
        testSlot(slot);
        boolean earlier = slotFilled[slot];
        slots[slot].copyFrom(now);
        slotFilled[slot] = true;
        return earlier;
    }

    public int restoreSnapshot(int slot) throws IndexOutOfBoundsException, IllegalStateException {
        testSlot(slot);
        if (!slotFilled[slot]) {
            throw new IllegalStateException();
        }
        now.copyFrom(slots[slot]);
        history.clear();
        return now.time;
    }

    // ---- what the calls above have in common

    private void testPlayer(int player) {
        if (player < 0 || player >= net.players) {
            throw new IndexOutOfBoundsException();
        }
    }

    private Player seatOf(int player) {
        testPlayer(player);
        return now.seat(player);
    }

    private void testSlot(int slot) {
        if (slot < 0 || slot >= slots.length || slot >= slotFilled.length) {
            throw new IndexOutOfBoundsException();
        }
    }

    private static void copyRow(int[] from, int[] to) {
        for (int i = 0; i < from.length && i < to.length; i++) {
            to[i] = from[i];
        }
    }

    private static void clearRow(int[] row) {
        for (int i = 0; i < row.length; i++) {
            row[i] = 0;
        }
    }

    /** The video of a player and what else the text says of it. */
    private static final class Video {
        final int[] sizes = new int[MOST_QUALITIES];
        // The sizes of all segments: those of segment k from index k * MOST_QUALITIES on.
        final int[] table = new int[MOST_SEGMENTS * MOST_QUALITIES];
        long name;
        int rule;
        int segments;
        int weight;
        int qualities;
        int join;
        boolean joinTold;

        void clear() {
            clearRow(sizes);
            clearRow(table);
            name = 0;
            rule = LOWEST;
            segments = 0;
            weight = 1;
            qualities = 0;
            join = 0;
            joinTold = false;
        }

        void copyFrom(Video other) {
            copyRow(other.sizes, sizes);
            copyRow(other.table, table);
            name = other.name;
            rule = other.rule;
            segments = other.segments;
            weight = other.weight;
            qualities = other.qualities;
            join = other.join;
            joinTold = other.joinTold;
        }

        void setSegment(int segment, int percent) {
            for (int quality = 0; quality < sizes.length; quality++) {
                int at = segment * MOST_QUALITIES + quality;
                if (at >= 0 && at < table.length) {
                    int size = sizes[quality] * percent / HUNDRED_PERCENT;
                    table[at] = size < 1 ? 1 : size;
                }
            }
        }

        int sizeOfSegment(int segment, int quality) {
            int at = segment * MOST_QUALITIES + quality;
            return at >= 0 && at < table.length ? table[at] : 0;
        }

        /** The greatest quality in which size * 100 of a segment is at most the budget; 0 if there is none. */
        int greatestWithin(int segment, int budget) {
            for (int quality = qualities - 1; quality > 0; quality--) {
                int at = segment * MOST_QUALITIES + quality;
                if (at >= 0 && at < table.length && table[at] * HUNDRED_PERCENT <= budget) {
                    return quality;
                }
            }
            return 0;
        }
    }

    /** What a text says: all that no change can change, and the first rates, rules and weights. */
    private static final class Net {
        final int[] pieceTicks = new int[MOST_PIECES];
        final int[] pieceRates = new int[MOST_PIECES];
        final int[] percentOf = new int[MOST_PERCENTS];
        final Video[] videos = new Video[MOST_PLAYERS];
        int length;
        int start;
        int full;
        int safety;
        int pieces;
        int percents;
        int players;
        int cycle;

        Net() {
            for (int p = 0; p < videos.length; p++) {
                videos[p] = new Video();
            }
            clear();
        }

        void clear() {
            clearRow(pieceTicks);
            clearRow(pieceRates);
            clearRow(percentOf);
            for (Video video : videos) {
                video.clear();
            }
            length = 1;
            start = 1;
            full = 1;
            safety = 10;
            pieces = 0;
            percents = 0;
            players = 0;
            cycle = 0;
        }

        void copyFrom(Net other) {
            copyRow(other.pieceTicks, pieceTicks);
            copyRow(other.pieceRates, pieceRates);
            copyRow(other.percentOf, percentOf);
            for (int p = 0; p < videos.length && p < other.videos.length; p++) {
                videos[p].copyFrom(other.videos[p]);
            }
            length = other.length;
            start = other.start;
            full = other.full;
            safety = other.safety;
            pieces = other.pieces;
            percents = other.percents;
            players = other.players;
            cycle = other.cycle;
        }

        void addPiece(int ticks, int rate) {
            if (pieces < pieceTicks.length && pieces < pieceRates.length) {
                pieceTicks[pieces] = ticks;
                pieceRates[pieces] = rate;
                pieces++;
                cycle += ticks;
            }
        }

        void addPercent(int percent) {
            if (percents < percentOf.length) {
                percentOf[percents] = percent;
                percents++;
            }
        }

        int indexOfName(long name) {
            for (int p = 0; p < players && p < videos.length; p++) {
                if (videos[p].name == name) {
                    return p;
                }
            }
            return NONE;
        }

        /** To be called when all is read: a vary may stand behind the players. */
        void setAllSegments() {
            for (Video video : videos) {
                for (int segment = 0; segment < video.segments; segment++) {
                    int turn = percents > 0 ? segment % percents : NONE;
                    boolean told = turn >= 0 && turn < percentOf.length;
                    video.setSegment(segment, told ? percentOf[turn] : HUNDRED_PERCENT);
                }
            }
        }
    }

    /** All of a player that changes can change. */
    private static final class Player {
        final Net net;
        final Video video;
        final int[] qualities = new int[MOST_SEGMENTS];
        final int[] askedIn = new int[MOST_SEGMENTS];
        final int[] cameIn = new int[MOST_SEGMENTS];
        int state;
        int rule;
        int weight;
        int buffer;
        int count;
        int quality;
        int missing;
        int asked;
        int played;
        int stalled;
        int stalls;
        int got;
        int measured;
        // In place of the rule, the qualities that a forecast tries for the segments; else null.
        int[] script;

        Player(Net net, Video video) {
            this.net = net;
            this.video = video;
            begin(false);
        }

        void begin(boolean present) {
            state = present ? STARTING : ABSENT;
            rule = video.rule;
            weight = video.weight;
            buffer = 0;
            count = 0;
            quality = NONE;
            missing = 0;
            asked = 0;
            played = 0;
            stalled = 0;
            stalls = 0;
            got = 0;
            measured = 0;
            script = null;
        }

        void copyFrom(Player other) {
            copyRow(other.qualities, qualities);
            copyRow(other.askedIn, askedIn);
            copyRow(other.cameIn, cameIn);
            state = other.state;
            rule = other.rule;
            weight = other.weight;
            buffer = other.buffer;
            count = other.count;
            quality = other.quality;
            missing = other.missing;
            asked = other.asked;
            played = other.played;
            stalled = other.stalled;
            stalls = other.stalls;
            got = other.got;
            measured = other.measured;
            script = null;
        }

        boolean isActive() {
            return state < DONE;
        }

        boolean isLoading() {
            return state < DONE && quality != NONE;
        }

        boolean hasAll() {
            return count >= video.segments;
        }

        int segmentsAsked() {
            return quality == NONE ? count : count + 1;
        }

        int segmentsToAsk() {
            return state < DONE ? video.segments - segmentsAsked() : 0;
        }

        boolean canAsk(int time) {
            return state < DONE && time >= video.join && quality == NONE && count < video.segments
                    && (buffer == 0 || buffer + net.length <= net.full);
        }

        void ask(int time) {
            if (canAsk(time)) {
                quality = choose();
                missing = video.sizeOfSegment(count, quality);
                asked = time;
            }
        }

        /** The quality for the first segment for which it has not asked yet. */
        int choose() {
            int segment = segmentsAsked();
            if (script != null && segment < script.length) {
                return script[segment];
            }
            switch (rule) {
                case BUFFER: return byBuffer();
                case RATE: return video.greatestWithin(segment, budget());
                case MIX: return Math.min(byBuffer(), video.greatestWithin(segment, budget()));
                default: return 0;
            }
        }

        private int byBuffer() {
            int greatest = video.qualities - 1;
            int chosen = net.full > 0 ? buffer * video.qualities / net.full : 0;
            return chosen < greatest ? chosen : greatest;
        }

        /** The bytes * 100 that it dares to ask for by its measured rate. */
        private int budget() {
            return measured * net.length * net.safety;
        }

        void take(int bytes) {
            missing -= bytes;
            got += bytes;
        }

        void finishLoad(int time) {
            if (!isLoading() || missing > 0 || count >= MOST_SEGMENTS) {
                return;
            }
            qualities[count] = quality;
            askedIn[count] = asked;
            cameIn[count] = time;
            int ticks = time - asked + 1;
            measured = ticks > 0 ? video.sizeOfSegment(count, quality) / ticks : 0;
            count++;
            quality = NONE;
            buffer += net.length;
        }

        void play(int time) {
            if (state >= DONE || time < video.join) {
                return;
            }
            if (buffer >= net.start || hasAll()) {
                state = PLAYING;
            }
            if (state == PLAYING) {
                if (buffer > 0) {
                    buffer--;
                    played++;
                } else if (!hasAll()) {
                    state = STALLED;
                    stalls++;
                }
            }
            if (state == STALLED) {
                stalled++;
            }
            if (hasAll() && buffer == 0) {
                state = DONE;
            }
        }

        /** What it has of the segment that it loads. */
        int bytesOfLoad() {
            return quality == NONE ? 0 : video.sizeOfSegment(count, quality) - missing;
        }

        int countSwitches() {
            int switches = 0;
            for (int k = 1; k < count && k < qualities.length; k++) {
                if (qualities[k] != qualities[k - 1]) {
                    switches++;
                }
            }
            return switches;
        }

        int sumOfQualities() {
            int sum = 0;
            for (int k = 0; k < count && k < qualities.length; k++) {
                sum += qualities[k];
            }
            return sum;
        }

        boolean addsUp() {
            int bytes = bytesOfLoad();
            for (int k = 0; k < count && k < qualities.length; k++) {
                bytes += video.sizeOfSegment(k, qualities[k]);
            }
            return bytes == got && played + buffer == count * net.length;
        }
    }

    /** Everything that changes can change. */
    private static final class State {
        final Net net;
        final int[] rates = new int[MOST_PIECES];
        final Player[] players = new Player[MOST_PLAYERS];
        int time;
        int carried;
        int unused;
        // In place of the rates of the pieces, the one that a forecast tries for all times; else NONE.
        int steadyRate = NONE;

        State(Net net) {
            this.net = net;
            for (int p = 0; p < players.length && p < net.videos.length; p++) {
                players[p] = new Player(net, net.videos[p]);
            }
        }

        void begin() {
            copyRow(net.pieceRates, rates);
            for (int p = 0; p < players.length; p++) {
                players[p].begin(p < net.players);
            }
            time = 0;
            carried = 0;
            unused = 0;
            steadyRate = NONE;
        }

        void copyFrom(State other) {
            copyRow(other.rates, rates);
            for (int p = 0; p < players.length && p < other.players.length; p++) {
                players[p].copyFrom(other.players[p]);
            }
            time = other.time;
            carried = other.carried;
            unused = other.unused;
            steadyRate = NONE;
        }

        /** A player whose number is tested already; any other number gives the first seat. */
        Player seat(int p) {
            return players[p > 0 && p < players.length ? p : 0];
        }

        int rateAt(int tick) {
            if (steadyRate != NONE) {
                return steadyRate;
            }
            int rest = net.cycle > 0 ? tick % net.cycle : 0;
            for (int piece = 0; piece < net.pieces && piece < rates.length; piece++) {
                if (rest < net.pieceTicks[piece]) {
                    return rates[piece];
                }
                rest -= net.pieceTicks[piece];
            }
            return RATE_WITHOUT_PIECES;
        }

        void passTick() {
            for (Player player : players) {
                player.ask(time);
            }
            shareLink(rateAt(time));
            for (Player player : players) {
                player.finishLoad(time);
            }
            for (Player player : players) {
                player.play(time);
            }
            time++;
        }

        private void shareLink(int rate) {
            int left = rate;
            int weights = weightsInNeed();
            // Each round gives a byte at least, so there are no more rounds than bytes.
            for (int round = 0; round < rate && left > 0 && weights > 0; round++) {
                int given = giveByWeight(left, weights);
                left -= given > 0 ? given : giveSingly(left);
                weights = weightsInNeed();
            }
            carried += rate - left;
            unused += left;
        }

        private int weightsInNeed() {
            int weights = 0;
            for (Player player : players) {
                if (player.isLoading() && player.missing > 0) {
                    weights += player.weight;
                }
            }
            return weights;
        }

        private int giveByWeight(int left, int weights) {
            int given = 0;
            for (Player player : players) {
                if (player.isLoading() && player.missing > 0 && weights > 0) {
                    int bytes = Math.min(left * player.weight / weights, player.missing);
                    player.take(bytes);
                    given += bytes;
                }
            }
            return given;
        }

        private int giveSingly(int left) {
            int given = 0;
            for (Player player : players) {
                if (given < left && player.isLoading() && player.missing > 0) {
                    player.take(1);
                    given++;
                }
            }
            return given;
        }

        void passToEnd() {
            for (int t = time; t < LAST_TIME && anyActive(); t++) {
                passTick();
            }
        }

        boolean anyActive() {
            for (Player player : players) {
                if (player.isActive()) {
                    return true;
                }
            }
            return false;
        }

        int countLoading() {
            int loading = 0;
            for (Player player : players) {
                if (player.isLoading()) {
                    loading++;
                }
            }
            return loading;
        }

        int countDone() {
            int done = 0;
            for (Player player : players) {
                if (player.state == DONE) {
                    done++;
                }
            }
            return done;
        }

        int ticksStalled() {
            int ticks = 0;
            for (Player player : players) {
                ticks += player.stalled;
            }
            return ticks;
        }

        int segmentsCome() {
            int segments = 0;
            for (Player player : players) {
                segments += player.count;
            }
            return segments;
        }

        boolean addsUp() {
            int bytes = 0;
            for (Player player : players) {
                if (!player.addsUp()) {
                    return false;
                }
                bytes += player.got;
            }
            return bytes == carried;
        }
    }

    /** What would be: lets ticks pass on copies of the state. */
    private static final class Outlook {
        private final State now;
        private final State base;
        private final State trial;
        private final int[] script = new int[MOST_SEGMENTS];

        Outlook(State now) {
            this.now = now;
            base = new State(now.net);
            trial = new State(now.net);
        }

        State afterOneTick() {
            trial.copyFrom(now);
            trial.passTick();
            return trial;
        }

        State atEnd() {
            trial.copyFrom(now);
            trial.passToEnd();
            return trial;
        }

        int greatestSteadyQuality(int p) {
            for (int quality = now.seat(p).video.qualities - 1; quality >= 0; quality--) {
                for (int segment = 0; segment < script.length; segment++) {
                    script[segment] = quality;
                }
                if (isSteady(now, p)) {
                    return quality;
                }
            }
            return NONE;
        }

        /** The player at the end, if it chooses by the script. */
        Player atEndAsPlanned(int p) {
            trial.copyFrom(now);
            Player player = trial.seat(p);
            player.script = script;
            trial.passToEnd();
            return player;
        }

        int planned(int segment) {
            return segment >= 0 && segment < script.length ? script[segment] : NONE;
        }

        int leastSteadyRate() {
            for (int rate = 0; rate <= GREATEST_LEAST_RATE; rate += STEP_OF_LEAST_RATE) {
                if (isSteadyAt(rate)) {
                    return rate;
                }
            }
            return NONE;
        }

        /**
         * Writes into the script what the oracle chooses up to the segment last, and 0 behind it.
         * What is tried for a segment plays no part before the player asks for it, so all that is
         * tried for it starts from one state (base): that of the tick in which it asks.
         */
        void planAsOracle(int p, int last) {
            clearRow(script);
            base.copyFrom(now);
            Player player = base.seat(p);
            player.script = script;
            int allowed = player.stalled;
            for (int segment = player.segmentsAsked(); segment <= last && segment < script.length; segment++) {
                for (int t = base.time; t < LAST_TIME && !player.canAsk(t); t++) {
                    base.passTick();
                }
                if (base.time >= LAST_TIME || player.stalled > allowed) {
                    return;
                }
                int quality = player.video.qualities - 1;
                script[segment] = quality;
                while (quality > 0 && !isSteady(base, p)) {
                    quality--;
                    script[segment] = quality;
                }
                base.passTick();
            }
        }

        /** Whether the player, by the script from a state on, is done at the end and stalls no more than now. */
        private boolean isSteady(State from, int p) {
            int allowed = now.seat(p).stalled;
            trial.copyFrom(from);
            Player player = trial.seat(p);
            player.script = script;
            for (int t = trial.time; t < LAST_TIME && player.isActive() && player.stalled <= allowed; t++) {
                trial.passTick();
            }
            return player.state == DONE && player.stalled <= allowed;
        }

        private boolean isSteadyAt(int rate) {
            int allowed = now.ticksStalled();
            trial.copyFrom(now);
            trial.steadyRate = rate;
            for (int t = trial.time; t < LAST_TIME && trial.anyActive() && trial.ticksStalled() <= allowed; t++) {
                trial.passTick();
            }
            return !trial.anyActive() && trial.ticksStalled() <= allowed;
        }
    }

    /** The states before the latest changes. */
    private static final class History {
        private final State[] kept = new State[MOST_CHANGES];
        private int newest;
        int count;

        History(Net net) {
            for (int i = 0; i < kept.length; i++) {
                kept[i] = new State(net);
            }
        }

        void clear() {
            count = 0;
        }

        void keep(State now) {
            newest = newest >= 0 && newest < kept.length - 1 ? newest + 1 : 0;
            kept[newest].copyFrom(now);
            if (count < kept.length) {
                count++;
            }
        }

        boolean takeBack(State now) {
            if (count == 0 || newest < 0 || newest >= kept.length) {
                return false;
            }
            now.copyFrom(kept[newest]);
            newest = newest > 0 ? newest - 1 : kept.length - 1;
            count--;
            return true;
        }
    }

    /** The input buffer, and what reads it. */
    private static final class Reader {
        private static final int WRONG_TOKEN = 1;
        private static final int SECOND_ONE = 2;
        private static final int OUT_OF_RANGE = 3;
        private static final int UNKNOWN_PLAYER = 4;
        private static final int TOO_MANY = 5;
        private static final int NOT_GREATER = 6;

        private static final int END = 0;
        private static final int WORD = 1;
        private static final int NUMBER = 2;
        private static final int SEMICOLON = 3;
        private static final int INVALID = 4;

        private static final int MOST_LETTERS = 8;
        private static final int MOST_DIGITS = 4;

        final Net draft = new Net();
        private final byte[] bytes = new byte[MOST_BYTES];
        int filled;
        int errorPosition = NONE;
        private int error;
        private int length;

        // The token that is looked at: its kind, its first byte, the byte behind it, and its worth.
        private int kind;
        private int first;
        private int next;
        private int number;
        private long word;

        boolean hasRoom() {
            return filled + BYTES_OF_APPEND <= bytes.length;
        }

        void addBytes(int four) {
            for (int shift = 24; shift >= 0; shift -= 8) {
                if (filled < bytes.length) {
                    bytes[filled] = (byte) (four >> shift);
                    filled++;
                }
            }
        }

        /** Reads the first bytes as a text into the draft, and empties the buffer; returns the code of the error. */
        int readText(int textLength) {
            draft.clear();
            error = 0;
            errorPosition = NONE;
            length = textLength;
            next = 0;
            readToken();
            readHead();
            for (int i = 0; i < length && error == 0 && kind != END; i++) {
                readStatement();
            }
            if (error == 0) {
                draft.setAllSegments();
            }
            filled = 0;
            return error;
        }

        /** Reads the buffer as a name with bytes 32 behind it, and empties it; returns 0 if it is none. */
        long readName() {
            error = 0;
            length = filled;
            filled = 0;
            next = 0;
            readToken();
            boolean alone = kind == WORD && first == 0;
            for (int i = next; i < length; i++) {
                alone = alone && byteAt(i) == ' ';
            }
            return alone ? word : 0;
        }

        private void readHead() {
            takeWord("net");
            draft.length = takeNumber(1, 20);
            draft.start = takeNumber(1, 60);
            draft.full = takeNumber(1, 200);
            draft.safety = takeNumber(10, 100);
            takeSemicolon();
        }

        private void readStatement() {
            if (isWord("link")) {
                readLink();
            } else if (isWord("vary")) {
                readVary();
            } else if (isWord("join")) {
                readJoin();
            } else if (isWord("player")) {
                readPlayer();
            } else {
                fail(WRONG_TOKEN);
            }
            takeSemicolon();
        }

        private void readLink() {
            if (draft.pieces >= MOST_PIECES) {
                fail(TOO_MANY);
            }
            takeWord("link");
            int ticks = takeNumber(1, 200);
            int rate = takeNumber(0, MOST_RATE);
            if (error == 0) {
                draft.addPiece(ticks, rate);
            }
        }

        private void readVary() {
            if (draft.percents > 0) {
                fail(SECOND_ONE);
            }
            takeWord("vary");
            for (int i = 0; i <= MOST_PERCENTS && error == 0 && (i == 0 || kind == NUMBER); i++) {
                testNumber(50, 200);
                if (i == MOST_PERCENTS) {
                    fail(TOO_MANY);
                }
                if (error == 0) {
                    draft.addPercent(number);
                    readToken();
                }
            }
        }

        private void readJoin() {
            takeWord("join");
            if (kind != WORD) {
                fail(WRONG_TOKEN);
            }
            int p = draft.indexOfName(word);
            if (p < 0 || p >= draft.videos.length) {
                fail(UNKNOWN_PLAYER);
                return;
            }
            Video video = draft.videos[p];
            if (video.joinTold) {
                fail(SECOND_ONE);
            }
            readToken();
            video.join = takeNumber(0, 999);
            video.joinTold = true;
        }

        private void readPlayer() {
            if (draft.players < 0 || draft.players >= draft.videos.length) {
                fail(TOO_MANY);
                return;
            }
            Video video = draft.videos[draft.players];
            takeWord("player");
            video.name = takeNewName();
            video.rule = takeRule();
            video.segments = takeNumber(1, MOST_SEGMENTS);
            video.weight = takeNumber(1, MOST_WEIGHT);
            readSizes(video);
            draft.players++;
        }

        private void readSizes(Video video) {
            int before = 0;
            for (int i = 0; i <= MOST_QUALITIES && error == 0 && (i == 0 || kind == NUMBER); i++) {
                testNumber(1, 9999);
                if (i >= video.sizes.length) {
                    fail(TOO_MANY);
                    return;
                }
                if (number <= before) {
                    fail(NOT_GREATER);
                }
                video.sizes[i] = number;
                video.qualities = i + 1;
                before = number;
                readToken();
            }
        }

        private long takeNewName() {
            if (kind != WORD) {
                fail(WRONG_TOKEN);
            } else if (draft.indexOfName(word) != NONE) {
                fail(SECOND_ONE);
            }
            long name = word;
            readToken();
            return name;
        }

        private int takeRule() {
            int rule = isWord("lowest") ? LOWEST : isWord("buffer") ? BUFFER
                    : isWord("rate") ? RATE : isWord("mix") ? MIX : NONE;
            if (rule == NONE) {
                fail(WRONG_TOKEN);
            }
            readToken();
            return rule;
        }

        private void takeWord(String expected) {
            if (!isWord(expected)) {
                fail(WRONG_TOKEN);
            }
            readToken();
        }

        private void takeSemicolon() {
            if (kind != SEMICOLON) {
                fail(WRONG_TOKEN);
            }
            readToken();
        }

        private int takeNumber(int least, int most) {
            testNumber(least, most);
            int taken = number;
            readToken();
            return taken;
        }

        private void testNumber(int least, int most) {
            if (kind != NUMBER) {
                fail(WRONG_TOKEN);
            } else if (number < least || number > most) {
                fail(OUT_OF_RANGE);
            }
        }

        /** Notes an error at the token; only the first one counts, which has the smallest position and code. */
        private void fail(int code) {
            if (error == 0) {
                error = code;
                errorPosition = first;
            }
        }

        private boolean isWord(String expected) {
            return kind == WORD && word == packed(expected);
        }

        /** Goes on to the next token; behind an error it stays at the token that is wrong. */
        private void readToken() {
            if (error != 0) {
                return;
            }
            while (next < length && (byteAt(next) == ' ' || byteAt(next) == '\n')) {
                next++;
            }
            first = next;
            word = 0;
            number = 0;
            int sign = byteAt(first);
            if (sign == NONE) {
                kind = END;
            } else if (isLetter(sign)) {
                for (; next < length && isLetter(byteAt(next)); next++) {
                    word = word << 8 | byteAt(next);
                }
                kind = next - first <= MOST_LETTERS ? WORD : INVALID;
            } else if (isDigit(sign)) {
                for (; next < length && isDigit(byteAt(next)); next++) {
                    number = number * 10 + byteAt(next) - '0';
                }
                kind = next - first <= MOST_DIGITS ? NUMBER : INVALID;
            } else {
                next++;
                kind = sign == ';' ? SEMICOLON : INVALID;
            }
        }

        private int byteAt(int i) {
            return i >= 0 && i < length && i < bytes.length ? bytes[i] & 255 : NONE;
        }

        private static boolean isLetter(int sign) {
            return sign >= 'a' && sign <= 'z';
        }

        private static boolean isDigit(int sign) {
            return sign >= '0' && sign <= '9';
        }

        /** A word as a number: each of its letters, at most 8, takes one byte. */
        private static long packed(String letters) {
            long packed = 0;
            for (int i = 0; i < letters.length(); i++) {
                packed = packed << 8 | letters.charAt(i);
            }
            return packed;
        }
    }
}
