import java.util.function.Function;
import java.util.function.Supplier;

/**
 * "A method that throws an exception changes nothing." Each call that is refused is made on one of two objects that were
 * used alike; what the calls behind it answer must then be the same on both.
 */
public final class RefusedTest {
    private static final int LEAST = Integer.MIN_VALUE;
    private static final int MOST = Integer.MAX_VALUE;
    private static final String INDEX = "throws.IndexOutOfBoundsException";
    private static final String ARGUMENT = "throws.IllegalArgumentException";
    private static final String STATE = "throws.IllegalStateException";
    private static final int[] NO_PLAYER = {-1, 3, 4, MOST, LEAST};
    private static final int[] NO_PIECE = {-1, 2, 8, MOST, LEAST};
    private static final int[] NO_SLOT = {-1, 2, MOST, LEAST};
    private static final String BEHIND = "net 3 2 9 50;link 4 25;player zed rate 3 2 10 20;";

    public static void main(String[] args) {
        Checks.sentence("CHANGES", "A method that throws an exception changes nothing.");
        text();
        players();
        outlook();
        sums();
        changes();
        snapshots();
        atTheEnd();
        withoutPlayers();
        answersOfNone();
        Checks.end("RefusedTest");
    }

    /** In the midst of all: a plays, b is done, c has quit; a slot is filled, 5 changes can be undone, and 60 bytes wait. */
    private static SharedLink used() {
        SharedLink x = new SharedLink();
        Checks.parse(x, "net 2 2 8 100;link 3 10;link 2 20;player a mix 9 1 30 60;player b lowest 1 2 5;player c buffer 9 2 30 31;?");
        Checks.parse(x, "net 2 2 8 100;link 3 10;link 2 20;player a mix 9 1 30 60;player b lowest 1 2 5;player c buffer 9 2 30 31;");
        Checks.parse(x, "net 5 5");
        x.run(4);
        x.saveSnapshot(0);
        x.run(2);
        x.quit(2);
        x.setRate(1, 35);
        x.run(9);
        Checks.put(x, BEHIND);
        return x;
    }

    private static SharedLink ended() {
        SharedLink x = used();
        x.setRule(0, 3);
        for (int i = 0; i < 9; i++) {
            x.run(200);
        }
        x.run(185);
        return x;
    }

    private static void refused(String what, String due, Function<SharedLink, Object> call) {
        refused(what, due, RefusedTest::used, call);
    }

    private static void refused(String what, String due, Supplier<SharedLink> maker, Function<SharedLink, Object> call) {
        alike(what + ": the net", due, maker, call, Checks::state);
        alike(what + ": the position, the buffer, the changes", due, maker, call,
                x -> x.errorPosition() + " " + x.append(0, 0, 0, 0, 0) + " " + x.size(10));
        alike(what + ": undo", due, maker, call, x -> x.undo() + " " + Checks.state(x));
        alike(what + ": undo of all", due, maker, call, x -> Checks.row(0, 11, i -> x.undo()) + " " + Checks.state(x));
        for (int i = 0; i < 2; i++) {
            int slot = i;
            alike(what + ": slot " + i, due, maker, call, x -> Checks.told(() -> x.restoreSnapshot(slot)) + " " + Checks.state(x));
        }
        alike(what + ": later", due, maker, call, x -> Checks.told(() -> x.run(7)) + " " + Checks.state(x));
        alike(what + ": the text that waits", due, maker, call,
                x -> Checks.told(() -> x.parse(BEHIND.length())) + " " + Checks.state(x));
    }

    /** The document bounds the calls of an object, so each question has two objects of its own. */
    private static void alike(String what, String due, Supplier<SharedLink> maker, Function<SharedLink, Object> call,
            Function<SharedLink, Object> question) {
        SharedLink x = maker.get();
        SharedLink y = maker.get();
        Checks.due(what, due, () -> call.apply(x));
        Checks.due(what, question.apply(y), () -> question.apply(x));
    }

    private static void text() {
        for (int length : new int[] {-1, 61, 80, 600, 601, MOST, LEAST}) {
            refused("parse(" + length + ")", ARGUMENT, x -> x.parse(length));
        }
        for (int what : new int[] {-1, 11, MOST, LEAST}) {
            refused("size(" + what + ")", ARGUMENT, x -> x.size(what));
        }
        for (int tick : new int[] {-1, LEAST}) {
            refused("rate(" + tick + ")", ARGUMENT, x -> x.rate(tick));
        }
    }

    private static void players() {
        for (int player : NO_PLAYER) {
            refused("player(" + player + ", 0)", INDEX, x -> x.player(player, 0));
            refused("loaded(" + player + ", 0, 0)", INDEX, x -> x.loaded(player, 0, 0));
            refused("sizeOf(" + player + ", 0, 0)", INDEX, x -> x.sizeOf(player, 0, 0));
        }
        for (int what : new int[] {-1, 17, MOST, LEAST}) {
            refused("player(0, " + what + ")", ARGUMENT, x -> x.player(0, what));
        }
        for (int part : new int[] {-1, 4, MOST, LEAST}) {
            refused("loaded(0, 0, " + part + ")", ARGUMENT, x -> x.loaded(0, 0, part));
        }
        for (int segment : new int[] {-1, 9, MOST, LEAST}) {
            refused("sizeOf(0, " + segment + ", 0)", ARGUMENT, x -> x.sizeOf(0, segment, 0));
        }
        for (int quality : new int[] {-1, 2, MOST, LEAST}) {
            refused("sizeOf(0, 0, " + quality + ")", ARGUMENT, x -> x.sizeOf(0, 0, quality));
        }
    }

    private static void outlook() {
        for (int player : NO_PLAYER) {
            refused("wouldChoose(" + player + ")", INDEX, x -> x.wouldChoose(player));
            refused("share(" + player + ")", INDEX, x -> x.share(player));
            refused("forecast(" + player + ", 0)", INDEX, x -> x.forecast(player, 0));
            refused("steadyQuality(" + player + ")", INDEX, x -> x.steadyQuality(player));
            refused("oracle(" + player + ", 0)", INDEX, x -> x.oracle(player, 0));
            refused("regret(" + player + ")", INDEX, x -> x.regret(player));
        }
        for (int what : new int[] {-1, 6, MOST, LEAST}) {
            refused("forecast(0, " + what + ")", ARGUMENT, x -> x.forecast(0, what));
        }
    }

    private static void sums() {
        for (int player : NO_PLAYER) {
            refused("meanQuality(" + player + ")", INDEX, x -> x.meanQuality(player));
        }
        for (int what : new int[] {-1, 4, MOST, LEAST}) {
            refused("account(" + what + ")", ARGUMENT, x -> x.account(what));
        }
    }

    private static void changes() {
        for (int ticks : new int[] {0, -1, 201, MOST, LEAST}) {
            refused("run(" + ticks + ")", ARGUMENT, x -> x.run(ticks));
        }
        for (int player : NO_PLAYER) {
            refused("setRule(" + player + ", 0)", INDEX, x -> x.setRule(player, 0));
            refused("setWeight(" + player + ", 5)", INDEX, x -> x.setWeight(player, 5));
            refused("quit(" + player + ")", INDEX, x -> x.quit(player));
        }
        for (int rule : new int[] {-1, 4, MOST, LEAST}) {
            refused("setRule(0, " + rule + ")", ARGUMENT, x -> x.setRule(0, rule));
        }
        for (int weight : new int[] {0, -1, 10, MOST, LEAST}) {
            refused("setWeight(0, " + weight + ")", ARGUMENT, x -> x.setWeight(0, weight));
        }
        for (int piece : NO_PIECE) {
            refused("setRate(" + piece + ", 5)", INDEX, x -> x.setRate(piece, 5));
        }
        for (int rate : new int[] {-1, 10000, MOST, LEAST}) {
            refused("setRate(0, " + rate + ")", ARGUMENT, x -> x.setRate(0, rate));
        }
        refused("quit of one that is done", STATE, x -> x.quit(1));
        refused("quit of one that has quit", STATE, x -> x.quit(2));
    }

    private static void snapshots() {
        for (int slot : NO_SLOT) {
            refused("saveSnapshot(" + slot + ")", INDEX, x -> x.saveSnapshot(slot));
            refused("restoreSnapshot(" + slot + ")", INDEX, x -> x.restoreSnapshot(slot));
        }
        refused("restoreSnapshot of an empty slot", STATE, x -> x.restoreSnapshot(1));
    }

    private static void atTheEnd() {
        SharedLink time = ended();
        Checks.due("the time", 2000, () -> time.size(7));
        for (int ticks : new int[] {1, 2, 200}) {
            refused("run(" + ticks + ") at 2000", STATE, RefusedTest::ended, x -> x.run(ticks));
        }
        refused("run(201) at 2000", ARGUMENT, RefusedTest::ended, x -> x.run(201));
    }

    private static void withoutPlayers() {
        refused("player of a new object", INDEX, SharedLink::new, x -> x.player(0, 0));
        refused("setRate of a new object", INDEX, SharedLink::new, x -> x.setRate(0, 5));
        refused("quit of a new object", INDEX, SharedLink::new, x -> x.quit(0));
        refused("parse of a new object", ARGUMENT, SharedLink::new, x -> x.parse(1));
        refused("restoreSnapshot of a new object", STATE, SharedLink::new, x -> x.restoreSnapshot(0));
    }

    /** What answers NONE without an exception leaves all as it was, too. */
    private static void answersOfNone() {
        Checks.sentence("The constants", "Returned if there is no result.");
        refused("oracle(0, -1)", "-1", x -> x.oracle(0, -1));
        refused("oracle(0, 30)", "-1", x -> x.oracle(0, 30));
        refused("oracle of one that has quit", "-1", x -> x.oracle(2, 0));
        refused("loaded(0, 30, 0)", "-1", x -> x.loaded(0, 30, 0));
        refused("wouldChoose of one that has quit", "-1", x -> x.wouldChoose(2));
        refused("steadyQuality of one that is done", "-1", x -> x.steadyQuality(1));
        refused("undo of a new object", "-1", SharedLink::new, SharedLink::undo);
        SharedLink full = used();
        for (int length = 80; length <= 600; length += 20) {
            full.append(0, 0, 0, 0, 0);
        }
        Checks.due("append to 600 bytes", -1, () -> full.append(0x3b3b3b3b, 0, 0, 0, 0));
        Checks.due("the net", Checks.state(used()), () -> Checks.state(full));
        Checks.due("changes", 5, () -> full.size(10));
        Checks.due("the text that waits", 0, () -> full.parse(BEHIND.length()));
        Checks.due("its player", 0, () -> Checks.find(full, "zed"));
    }
}
