/** CHANGES, and promises 22 to 29: each sentence that names a boundary case has a test of its own, which begins with it. */
public final class ChangesEdgesTest {
    private static final int LEAST = Integer.MIN_VALUE;
    private static final int MOST = Integer.MAX_VALUE;
    private static final String NET = "net 2 2 8 100;link 3 10;link 2 20;player a lowest 9 1 30 60;player b buffer 9 2 30 31;";

    public static void main(String[] args) {
        changesAre();
        changesThatAlterNothing();
        latestTen();
        latestFirst();
        tenAfterUndo();
        slotsAreTwo();
        snapshotHoldsAll();
        snapshotHoldsLoaded();
        runTicks();
        runToTheEnd();
        runChecks();
        ruleLimits();
        ruleChecksFirst();
        weightLimits();
        weightChecksFirst();
        rateLimits();
        rateChecksFirst();
        ratePieces();
        quitStays();
        quitInVain();
        quitInVainZero();
        quitNobody();
        quitRefused();
        quitStates();
        undoNone();
        undoCounts();
        saveEarlier();
        saveInPlace();
        saveNoSlot();
        restoreTime();
        restoreStays();
        restoreClears();
        restoreNoSlot();
        restoreEmpty();
        noSuchFirst();
        manyCalls();
        Checks.end("ChangesEdgesTest");
    }

    private static SharedLink ran(String text, int ticks) {
        SharedLink x = Checks.net(text);
        x.run(ticks);
        return x;
    }

    private static int change(SharedLink x, int which) {
        switch (which) {
            case 0: return x.run(3);
            case 1: return x.setRule(0, 1);
            case 2: return x.setWeight(1, 7);
            case 3: return x.setRate(1, 5);
            default: return x.quit(1);
        }
    }

    // ---- CHANGES

    private static void changesAre() {
        Checks.sentence("CHANGES", "The methods from run to quit are changes if they throw no exception");
        for (int which = 0; which < 5; which++) {
            int change = which;
            SharedLink x = ran(NET, 4);
            String before = Checks.state(x);
            change(x, change);
            Checks.due("change " + which, "2 false", () -> x.size(10) + " " + before.equals(Checks.state(x)));
            Checks.due("undo of change " + which, 1, x::undo);
            Checks.due("as before change " + which, before, () -> Checks.state(x));
        }
        SharedLink y = ran(NET, 4);
        y.append(0, 0, 0, 0, 0);
        y.find();
        y.parse(0);
        Checks.state(y);
        y.saveSnapshot(0);
        Checks.due("no other method is", 1, () -> y.size(10));
        Checks.told(() -> y.run(0));
        Checks.told(() -> y.run(201));
        Checks.told(() -> y.setRule(0, 4));
        Checks.told(() -> y.setRule(2, 0));
        Checks.told(() -> y.setWeight(0, 0));
        Checks.told(() -> y.setWeight(-1, 1));
        Checks.told(() -> y.setRate(0, 10000));
        Checks.told(() -> y.setRate(2, 0));
        Checks.told(() -> y.quit(2));
        Checks.due("nor one that throws", 1, () -> y.size(10));
        y.quit(0);
        Checks.told(() -> y.quit(0));
        Checks.due("nor a second quit", 2, () -> y.size(10));
    }

    private static void changesThatAlterNothing() {
        Checks.sentence("CHANGES", "also if they alter nothing");
        SharedLink x = ran(NET, 4);
        String before = Checks.state(x);
        x.setRule(0, 0);
        Checks.due("the same rule", 2, () -> x.size(10));
        x.setWeight(1, 2);
        Checks.due("the same weight", 3, () -> x.size(10));
        x.setRate(1, 20);
        Checks.due("the same rate", 4, () -> x.size(10));
        Checks.due("nothing has altered", before, () -> Checks.state(x));
        Checks.due("undo of the rate", 3, x::undo);
        Checks.due("undo of the weight", 2, x::undo);
        Checks.due("undo of the rule", 1, x::undo);
        Checks.due("nothing has altered", "4 " + before, () -> x.size(7) + " " + Checks.state(x));
        Checks.due("undo of the run", 0, x::undo);
        Checks.due("the time", 0, () -> x.size(7));
    }

    private static void latestTen() {
        Checks.sentence("CHANGES", "The latest 10 changes can be undone");
        for (int changes = 9; changes <= 12; changes++) {
            SharedLink x = Checks.net(NET);
            for (int i = 0; i < changes; i++) {
                x.run(1);
            }
            int least = Math.max(0, changes - 10);
            for (int left = Math.min(changes, 10) - 1; left >= 0; left--) {
                Checks.due("undo", left, x::undo);
            }
            Checks.due("no more", -1, x::undo);
            Checks.due("after " + changes + " changes back to", least, () -> x.size(7));
        }
    }

    private static void latestFirst() {
        Checks.sentence("CHANGES", "the latest first");
        for (int left = 4; left >= 0; left--) {
            SharedLink x = changed(5);
            for (int i = 4; i > left; i--) {
                x.undo();
            }
            Checks.due("undo", left, x::undo);
            Checks.due("the state with " + left, Checks.state(changed(left)), () -> Checks.state(x));
        }
    }

    private static SharedLink changed(int changes) {
        SharedLink x = Checks.net(NET);
        for (int i = 0; i < changes; i++) {
            change(x, (i + 3) % 5);
        }
        return x;
    }

    private static void tenAfterUndo() {
        Checks.sentence("CHANGES", "The latest 10 changes can be undone, the latest first.");
        SharedLink x = Checks.net(NET);
        for (int i = 0; i < 13; i++) {
            x.run(1);
        }
        for (int i = 0; i < 7; i++) {
            x.undo();
        }
        Checks.due("at 6, three left", "6 3", () -> x.size(7) + " " + x.size(10));
        for (int i = 0; i < 9; i++) {
            x.run(2);
        }
        Checks.due("at 24, ten left", "24 10", () -> x.size(7) + " " + x.size(10));
        int[] times = {22, 20, 18, 16, 14, 12, 10, 8, 6, 5};
        for (int i = 0; i < 10; i++) {
            Checks.due("undo", 9 - i, x::undo);
            Checks.due("back at", times[i], () -> x.size(7));
        }
        Checks.due("no more", -1, x::undo);
        Checks.due("still at", 5, () -> x.size(7));
    }

    private static void slotsAreTwo() {
        Checks.sentence("CHANGES", "There are two snapshot slots, 0 and 1");
        SharedLink x = ran(NET, 2);
        x.saveSnapshot(0);
        x.run(3);
        x.saveSnapshot(1);
        x.run(4);
        Checks.due("slot 0", 2, () -> x.restoreSnapshot(0));
        Checks.due("slot 1", 5, () -> x.restoreSnapshot(1));
        Checks.due("slot 0 again", 2, () -> x.restoreSnapshot(0));
        Checks.outOfBounds("no slot 2", () -> x.restoreSnapshot(2));
        Checks.outOfBounds("no slot -1", () -> x.restoreSnapshot(-1));
    }

    private static void snapshotHoldsAll() {
        Checks.sentence("CHANGES", "a snapshot holds everything that changes can change, the sums of account(), too");
        for (int which = 0; which < 5; which++) {
            SharedLink x = ran(NET, 7);
            String before = Checks.state(x);
            String sums = Checks.row(0, 3, x::account);
            x.saveSnapshot(1);
            change(x, which);
            x.run(20);
            Checks.due("the time", 7, () -> x.restoreSnapshot(1));
            Checks.due("as before change " + which, before, () -> Checks.state(x));
            Checks.due("the sums", sums, () -> Checks.row(0, 3, x::account));
            x.run(10);
            SharedLink y = ran(NET, 17);
            Checks.due("what comes then", Checks.state(y), () -> Checks.state(x));
        }
    }

    /** What was loaded comes back where something else has been loaded since. */
    private static void snapshotHoldsLoaded() {
        Checks.sentence("CHANGES", "a snapshot holds everything that changes can change");
        SharedLink x = Checks.net("net 1 60 10 100;link 1 70;player a buffer 12 1 10 20 30 40;");
        x.saveSnapshot(0);
        x.run(20);
        x.saveSnapshot(1);
        String first = Checks.state(x);
        x.restoreSnapshot(0);
        x.setRate(0, 9);
        x.setRule(0, 0);
        x.run(20);
        Checks.due("another way", false, () -> first.equals(Checks.state(x)));
        Checks.due("the first way", 20, () -> x.restoreSnapshot(1));
        Checks.due("all of it", first, () -> Checks.state(x));
        x.run(1);
        x.undo();
        Checks.due("and after undo", first, () -> Checks.state(x));
    }

    // ---- promise 22

    private static void runTicks() {
        Checks.sentence("Promise 22 (run)", "ticks: 1 to 200");
        SharedLink x = Checks.net(NET);
        Checks.due("run(1)", 1, () -> x.run(1));
        Checks.due("run(200)", 201, () -> x.run(200));
        Checks.sentence("Promise 22 (run)", "Throws IllegalArgumentException if ticks is out of range");
        for (int ticks : new int[] {0, -1, 201, 202, MOST, LEAST}) {
            Checks.illegalArgument("run(" + ticks + ")", () -> x.run(ticks));
        }
        Checks.due("the time and the changes", "201 2", () -> x.size(7) + " " + x.size(10));
    }

    private static void runToTheEnd() {
        Checks.sentence("Promise 22 (run)", "Throws IllegalStateException if the time would be greater than 2000");
        SharedLink x = Checks.net(NET);
        for (int i = 1; i <= 9; i++) {
            x.run(200);
        }
        Checks.due("just to 2000", 2000, () -> x.run(200));
        Checks.illegalState("2001", () -> x.run(1));
        Checks.illegalState("2200", () -> x.run(200));
        Checks.due("undo", "9 1800", () -> x.undo() + " " + x.size(7));
        Checks.due("to 1801", 1801, () -> x.run(1));
        Checks.illegalState("to 2001", () -> x.run(200));
        Checks.due("to 2000", 2000, () -> x.run(199));
        x.undo();
        Checks.due("to 1999", 1999, () -> x.run(198));
        Checks.illegalState("to 2001 from 1999", () -> x.run(2));
        Checks.due("to 2000 from 1999", 2000, () -> x.run(1));
        Checks.illegalState("from 2000", () -> x.run(1));
        Checks.due("other changes go on", "0 2 20", () -> x.setRule(0, 3) + " " + x.setWeight(1, 1) + " " + x.setRate(1, 0));
        Checks.due("the time", 2000, () -> x.size(7));
    }

    private static void runChecks() {
        Checks.sentence("The public face", "public int run(int ticks) throws IllegalArgumentException, IllegalStateException");
        SharedLink x = Checks.net("net 1 1 1 10;");
        for (int i = 1; i <= 10; i++) {
            x.run(200);
        }
        Checks.illegalArgument("run(201) at 2000", () -> x.run(201));
        Checks.illegalArgument("run(0) at 2000", () -> x.run(0));
        Checks.illegalArgument("the greatest at 2000", () -> x.run(MOST));
    }

    // ---- promises 23 to 25

    private static void ruleLimits() {
        Checks.sentence("Promise 23 (setRule)", "rule: 0 to 3");
        SharedLink x = Checks.net(NET);
        int[] rules = {3, 0, 1, 2, 2, 3};
        int before = 1;
        for (int rule : rules) {
            int previous = before;
            Checks.sentence("Promise 23 (setRule)", "Returns the previous rule.");
            Checks.due("setRule(1, " + rule + ")", previous, () -> x.setRule(1, rule));
            Checks.sentence("Promise 23 (setRule)", "Sets the rule of a player.");
            Checks.due("is set", rule, () -> x.player(1, 12));
            before = rule;
        }
        Checks.sentence("Promise 23 (setRule)", "Throws IllegalArgumentException if rule is out of range");
        for (int rule : new int[] {-1, 4, MOST, LEAST}) {
            Checks.illegalArgument("setRule(1, " + rule + ")", () -> x.setRule(1, rule));
        }
        Checks.due("the rules", "0 3", () -> Checks.row(0, 1, p -> x.player(p, 12)));
    }

    private static void ruleChecksFirst() {
        Checks.sentence("Promise 23 (setRule)", "Throws IndexOutOfBoundsException if there is no such player (checked first)");
        SharedLink x = Checks.net(NET);
        for (int player : new int[] {-1, 2, 3, 4, MOST, LEAST}) {
            Checks.outOfBounds("setRule(" + player + ", 0)", () -> x.setRule(player, 0));
            Checks.outOfBounds("setRule(" + player + ", 4)", () -> x.setRule(player, 4));
        }
        Checks.due("the rules", "0 1 0", () -> Checks.row(0, 1, p -> x.player(p, 12)) + " " + x.size(10));
    }

    private static void weightLimits() {
        Checks.sentence("Promise 24 (setWeight)", "weight: 1 to 9");
        SharedLink x = Checks.net(NET);
        int before = 2;
        for (int weight : new int[] {9, 1, 5, 5, 9}) {
            int previous = before;
            Checks.sentence("Promise 24 (setWeight)", "Returns the previous weight.");
            Checks.due("setWeight(1, " + weight + ")", previous, () -> x.setWeight(1, weight));
            Checks.sentence("Promise 24 (setWeight)", "Sets the weight of a player.");
            Checks.due("is set", weight, () -> x.player(1, 13));
            before = weight;
        }
        Checks.sentence("Promise 24 (setWeight)", "Throws IllegalArgumentException if weight is out of range");
        for (int weight : new int[] {0, -1, 10, MOST, LEAST}) {
            Checks.illegalArgument("setWeight(1, " + weight + ")", () -> x.setWeight(1, weight));
        }
        Checks.due("the weights", "1 9", () -> Checks.row(0, 1, p -> x.player(p, 13)));
        x.run(1);
        Checks.due("1 and 9 of 10", "1 9", () -> Checks.row(0, 1, p -> x.player(p, 10)));
    }

    private static void weightChecksFirst() {
        Checks.sentence("Promise 24 (setWeight)", "Throws IndexOutOfBoundsException if there is no such player (checked first)");
        SharedLink x = Checks.net(NET);
        for (int player : new int[] {-1, 2, 3, 4, MOST, LEAST}) {
            Checks.outOfBounds("setWeight(" + player + ", 1)", () -> x.setWeight(player, 1));
            Checks.outOfBounds("setWeight(" + player + ", 0)", () -> x.setWeight(player, 0));
        }
        Checks.due("the weights", "1 2 0", () -> Checks.row(0, 1, p -> x.player(p, 13)) + " " + x.size(10));
    }

    private static void rateLimits() {
        Checks.sentence("Promise 25 (setRate)", "rate: 0 to 9999");
        SharedLink x = Checks.net(NET);
        int before = 20;
        for (int rate : new int[] {9999, 0, 1, 1, 9998}) {
            int previous = before;
            Checks.sentence("Promise 25 (setRate)", "Returns the previous rate.");
            Checks.due("setRate(1, " + rate + ")", previous, () -> x.setRate(1, rate));
            Checks.sentence("Promise 25 (setRate)", "Sets the rate of a piece of the link.");
            Checks.due("is set", rate, () -> x.rate(3));
            before = rate;
        }
        Checks.sentence("Promise 25 (setRate)", "Throws IllegalArgumentException if rate is out of range");
        for (int rate : new int[] {-1, 10000, MOST, LEAST}) {
            Checks.illegalArgument("setRate(1, " + rate + ")", () -> x.setRate(1, rate));
        }
        Checks.due("the rates", "10 9998", () -> x.rate(2) + " " + x.rate(4));
    }

    private static void rateChecksFirst() {
        Checks.sentence("Promise 25 (setRate)", "Throws IndexOutOfBoundsException if there is no such piece (checked first)");
        SharedLink x = Checks.net(NET);
        for (int piece : new int[] {-1, 2, 3, 7, 8, MOST, LEAST}) {
            Checks.outOfBounds("setRate(" + piece + ", 0)", () -> x.setRate(piece, 0));
            Checks.outOfBounds("setRate(" + piece + ", -1)", () -> x.setRate(piece, -1));
            Checks.outOfBounds("setRate(" + piece + ", 10000)", () -> x.setRate(piece, 10000));
        }
        Checks.outOfBounds("without pieces", () -> new SharedLink().setRate(0, 0));
        Checks.due("the rates", "10 20 0", () -> x.rate(2) + " " + x.rate(4) + " " + x.size(10));
    }

    private static void ratePieces() {
        Checks.sentence("Promise 25 (setRate)", "piece: a piece");
        SharedLink x = Checks.net("net 1 1 1 10;link 1 1;link 1 2;link 1 3;link 1 4;link 1 5;link 1 6;link 1 7;link 1 8;");
        for (int i = 0; i < 8; i++) {
            int piece = i;
            Checks.due("setRate(" + i + ")", i + 1, () -> x.setRate(piece, 10 + piece));
        }
        Checks.due("all of them", "10 11 12 13 14 15 16 17 10", () -> Checks.row(0, 8, x::rate));
        Checks.outOfBounds("no ninth", () -> x.setRate(8, 0));
        x.run(9);
        Checks.due("the ticks have them", 118, () -> x.account(1));
    }

    // ---- promise 26

    private static void quitStays() {
        Checks.sentence("Promise 26 (quit)", "it loads and plays nothing any more; all of it but its state stays as it is (also what it has of the segment that it loads)");
        SharedLink x = ran("net 4 2 12 100;link 1 15;player a lowest 9 1 20;player b lowest 3 1 1;join b 5;", 3);
        Checks.due("it plays, and has 15 of 20 bytes", "1 2 1 0 5", () -> Checks.row(0, 4, what -> x.player(0, what)));
        String before = Checks.row(1, 16, what -> x.player(0, what));
        Checks.due("in vain", 15, () -> x.quit(0));
        Checks.due("at once", "4 " + before, () -> Checks.row(0, 16, what -> x.player(0, what)));
        x.run(50);
        Checks.due("and 50 ticks later", "4 " + before, () -> Checks.row(0, 16, what -> x.player(0, what)));
        Checks.due("the other one is done", 3, () -> x.player(1, 0));
        Checks.due("what it has loaded", "20 -1", () -> x.loaded(0, 0, 1) + " " + x.loaded(0, 1, 1));
        Checks.due("its rule and weight can be set", "0 1 3 9", () -> x.setRule(0, 3) + " " + x.setWeight(0, 9) + " " + x.player(0, 12) + " "
                + x.player(0, 13));
    }

    private static void quitInVain() {
        Checks.sentence("Promise 26 (quit)", "Returns the bytes of the segment that it loads which it has got in vain");
        String net = "net 1 1 1 10;link 1 7;player a lowest 9 1 50;";
        for (int ticks = 1; ticks <= 7; ticks++) {
            int due = 7 * ticks;
            SharedLink x = ran(net, ticks);
            Checks.due("after " + ticks, due, () -> x.quit(0));
        }
        SharedLink y = ran(net, 9);
        Checks.due("of the second segment alone", "1 7", () -> y.player(0, 2) + " " + y.quit(0));
        SharedLink z = ran("net 1 1 1 10;link 1 0;player a lowest 9 1 50;", 3);
        Checks.due("it loads, but has got none", "0 0", () -> z.player(0, 3) + " " + z.quit(0));
    }

    private static void quitInVainZero() {
        Checks.sentence("Promise 26 (quit)", "0 without one.");
        SharedLink x = Checks.net("net 1 1 1 10;link 1 10;player a lowest 9 1 10;player b lowest 9 1 10;join b 9;");
        Checks.due("it has not joined", 0, () -> x.quit(1));
        Checks.due("it has not asked", 0, () -> x.quit(0));
        x.undo();
        x.run(3);
        Checks.due("the third has just come", "3 -1 0", () -> x.player(0, 2) + " " + x.player(0, 3) + " " + x.quit(0));
    }

    private static void quitNobody() {
        Checks.sentence("Promise 26 (quit)", "Throws IndexOutOfBoundsException if there is no such player (checked first)");
        SharedLink x = ran("net 1 1 1 10;player a lowest 1 1 1;player b lowest 1 1 1;", 1);
        for (int player : new int[] {-1, 2, 3, 4, MOST, LEAST}) {
            Checks.outOfBounds("quit(" + player + ")", () -> x.quit(player));
        }
        Checks.outOfBounds("without players", () -> new SharedLink().quit(0));
    }

    private static void quitRefused() {
        Checks.sentence("Promise 26 (quit)", "Throws IllegalStateException if it is done or has quit");
        SharedLink x = ran("net 2 1 9 10;player a lowest 1 1 1;player b lowest 9 1 1;", 1);
        x.saveSnapshot(0);
        Checks.due("one tick before it is done", 0, () -> x.quit(0));
        Checks.illegalState("it has quit", () -> x.quit(0));
        x.undo();
        x.run(1);
        Checks.illegalState("it is done", () -> x.quit(0));
        Checks.due("the other one", 0, () -> x.quit(1));
        Checks.illegalState("has quit", () -> x.quit(1));
        x.run(5);
        Checks.illegalState("still", () -> x.quit(1));
        Checks.illegalState("still done", () -> x.quit(0));
        Checks.due("changes", 4, () -> x.size(10));
        x.restoreSnapshot(0);
        Checks.due("after restore", "0 0", () -> x.quit(0) + " " + x.quit(1));
    }

    private static void quitStates() {
        Checks.sentence("Promise 26 (quit)", "Lets a player quit");
        String net = "net 1 1 1 10;link 1 5;player a lowest 9 1 10;";
        int[] states = {0, 0, 1, 2, 1, 2};
        for (int ticks = 1; ticks < states.length; ticks++) {
            SharedLink x = ran(net, ticks);
            Checks.due("its state after " + ticks, states[ticks], () -> x.player(0, 0));
            Checks.due("in vain", ticks % 2 * 5, () -> x.quit(0));
            String after = Checks.row(0, 16, what -> x.player(0, what));
            x.run(9);
            Checks.due("it stays", after, () -> Checks.row(0, 16, what -> x.player(0, what)));
        }
    }

    // ---- promise 27

    private static void undoNone() {
        Checks.sentence("Promise 27 (undo)", "NONE if there was none to undo.");
        Checks.due("a new object", -1, () -> new SharedLink().undo());
        SharedLink x = Checks.net(NET);
        Checks.due("a new net", -1, x::undo);
        x.run(5);
        Checks.due("the last one", 0, x::undo);
        String before = Checks.state(x);
        Checks.due("none", -1, x::undo);
        Checks.due("none again", -1, x::undo);
        Checks.due("nothing has changed", "0 " + before, () -> x.size(10) + " " + Checks.state(x));
        x.run(5);
        Checks.due("a change after it", 0, x::undo);
    }

    private static void undoCounts() {
        Checks.sentence("Promise 27 (undo)", "Returns the number of changes that can still be undone");
        SharedLink x = Checks.net(NET);
        x.run(1);
        x.setRule(0, 1);
        x.setWeight(0, 3);
        Checks.due("of three", "2 2", () -> x.undo() + " " + x.size(10));
        Checks.due("of two", "1 1", () -> x.undo() + " " + x.size(10));
        x.setRate(0, 1);
        Checks.due("of two again", "1 1", () -> x.undo() + " " + x.size(10));
        Checks.due("of one", "0 0", () -> x.undo() + " " + x.size(10));
        Checks.due("all is as at first", Checks.state(Checks.net(NET)), () -> Checks.state(x));
    }

    // ---- promises 28 and 29

    private static void saveEarlier() {
        Checks.sentence("Promise 28 (saveSnapshot)", "Returns whether there was an earlier one.");
        SharedLink x = Checks.net(NET);
        Checks.due("slot 1", false, () -> x.saveSnapshot(1));
        Checks.due("slot 1 again", true, () -> x.saveSnapshot(1));
        Checks.due("slot 0", false, () -> x.saveSnapshot(0));
        Checks.due("slot 0 again", true, () -> x.saveSnapshot(0));
        x.restoreSnapshot(1);
        Checks.due("after restore", "true true", () -> x.saveSnapshot(0) + " " + x.saveSnapshot(1));
        Checks.parse(x, NET + "?");
        Checks.due("after a parse error", "true true", () -> x.saveSnapshot(0) + " " + x.saveSnapshot(1));
        Checks.parse(x, NET);
        Checks.due("after a parse", "false false", () -> x.saveSnapshot(0) + " " + x.saveSnapshot(1));
    }

    private static void saveInPlace() {
        Checks.sentence("Promise 28 (saveSnapshot)", "Saves a snapshot in a slot, in place of an earlier one.");
        SharedLink x = ran(NET, 3);
        x.saveSnapshot(0);
        x.saveSnapshot(1);
        x.run(4);
        x.saveSnapshot(0);
        String later = Checks.state(x);
        x.run(5);
        Checks.due("the later one", 7, () -> x.restoreSnapshot(0));
        Checks.due("all of it", later, () -> Checks.state(x));
        Checks.due("the other slot", 3, () -> x.restoreSnapshot(1));
        x.run(1);
        x.saveSnapshot(1);
        Checks.due("saving is no change, and keeps the history", "4 1 0", () -> x.size(7) + " " + x.size(10) + " " + x.undo());
    }

    private static void saveNoSlot() {
        Checks.sentence("Promise 28 (saveSnapshot)", "Throws IndexOutOfBoundsException if there is no such slot");
        SharedLink x = Checks.net(NET);
        for (int slot : new int[] {-1, 2, 3, MOST, LEAST}) {
            Checks.outOfBounds("saveSnapshot(" + slot + ")", () -> x.saveSnapshot(slot));
        }
        Checks.illegalState("slot 0 is empty", () -> x.restoreSnapshot(0));
        Checks.illegalState("slot 1 is empty", () -> x.restoreSnapshot(1));
    }

    private static void restoreTime() {
        Checks.sentence("Promise 29 (restoreSnapshot)", "Returns the time then.");
        SharedLink x = Checks.net(NET);
        x.saveSnapshot(0);
        for (int i = 0; i < 10; i++) {
            x.run(200);
        }
        x.saveSnapshot(1);
        Checks.due("to 0", "0 0", () -> x.restoreSnapshot(0) + " " + x.size(7));
        Checks.due("to 2000", "2000 2000", () -> x.restoreSnapshot(1) + " " + x.size(7));
        Checks.illegalState("no tick behind it", () -> x.run(1));
    }

    private static void restoreStays() {
        Checks.sentence("Promise 29 (restoreSnapshot)", "Restores the snapshot of a slot, which stays stored.");
        SharedLink x = ran(NET, 6);
        String saved = Checks.state(x);
        x.saveSnapshot(0);
        for (int i = 0; i < 3; i++) {
            x.run(5 + i);
            x.setRate(0, i);
            x.setRule(0, 1 + i);
            x.setWeight(1, 9);
            Checks.due("restore", 6, () -> x.restoreSnapshot(0));
            Checks.due("all of it", saved, () -> Checks.state(x));
        }
        Checks.due("twice in a row", "6 6", () -> x.restoreSnapshot(0) + " " + x.restoreSnapshot(0));
    }

    private static void restoreClears() {
        Checks.sentence("Promise 29 (restoreSnapshot)", "The undo history is cleared.");
        SharedLink x = ran(NET, 6);
        x.saveSnapshot(0);
        x.run(1);
        x.run(1);
        x.restoreSnapshot(0);
        Checks.due("no change is left", "0 -1 6", () -> x.size(10) + " " + x.undo() + " " + x.size(7));
        x.run(2);
        Checks.due("a change after it", "1 0 6", () -> x.size(10) + " " + x.undo() + " " + x.size(7));
        Checks.due("and none before it", "-1 6", () -> x.undo() + " " + x.size(7));
    }

    private static void restoreNoSlot() {
        Checks.sentence("Promise 29 (restoreSnapshot)", "Throws IndexOutOfBoundsException if there is no such slot (checked first)");
        SharedLink x = Checks.net(NET);
        for (int slot : new int[] {-1, 2, 3, MOST, LEAST}) {
            Checks.outOfBounds("both slots empty: restoreSnapshot(" + slot + ")", () -> x.restoreSnapshot(slot));
        }
        x.saveSnapshot(0);
        x.saveSnapshot(1);
        for (int slot : new int[] {-1, 2, 3, MOST, LEAST}) {
            Checks.outOfBounds("both slots filled: restoreSnapshot(" + slot + ")", () -> x.restoreSnapshot(slot));
        }
    }

    private static void restoreEmpty() {
        Checks.sentence("Promise 29 (restoreSnapshot)", "Throws IllegalStateException if the slot is empty");
        SharedLink x = ran(NET, 3);
        Checks.illegalState("slot 0", () -> x.restoreSnapshot(0));
        Checks.illegalState("slot 1", () -> x.restoreSnapshot(1));
        x.saveSnapshot(1);
        Checks.illegalState("slot 0 beside a filled one", () -> x.restoreSnapshot(0));
        Checks.due("slot 1", 3, () -> x.restoreSnapshot(1));
        x.run(1);
        Checks.illegalState("still empty", () -> x.restoreSnapshot(0));
        Checks.due("time and changes stay", "4 1", () -> x.size(7) + " " + x.size(10));
        Checks.parse(x, NET);
        Checks.illegalState("slot 0 after a parse", () -> x.restoreSnapshot(0));
        Checks.illegalState("slot 1 after a parse", () -> x.restoreSnapshot(1));
    }

    // ---- all calls

    private static void noSuchFirst() {
        Checks.sentence("CHANGES", "Unless something else is said, a player or slot that does not exist causes an IndexOutOfBoundsException,"
                + " which is checked before any other exception.");
        SharedLink x = ran(NET, 3);
        for (int wrong : new int[] {-1, 2, MOST, LEAST}) {
            Checks.outOfBounds("player", () -> x.player(wrong, 17));
            Checks.outOfBounds("loaded", () -> x.loaded(wrong, -1, 4));
            Checks.outOfBounds("sizeOf", () -> x.sizeOf(wrong, -1, -1));
            Checks.outOfBounds("forecast", () -> x.forecast(wrong, 6));
            Checks.outOfBounds("setRule", () -> x.setRule(wrong, 4));
            Checks.outOfBounds("setWeight", () -> x.setWeight(wrong, 10));
            Checks.outOfBounds("setRate", () -> x.setRate(wrong, 10000));
            Checks.outOfBounds("quit", () -> x.quit(wrong));
            Checks.outOfBounds("saveSnapshot", () -> x.saveSnapshot(wrong));
            Checks.outOfBounds("restoreSnapshot of empty slots", () -> x.restoreSnapshot(wrong));
        }
    }

    private static void manyCalls() {
        Checks.sentence("What it is", "An object is used for at most 512 calls after it has been made");
        SharedLink x = new SharedLink();
        int calls = (NET.length() + 19) / 20 + 1;
        Checks.parse(x, NET);
        for (; calls < 509; calls++) {
            x.setRate(calls % 2, calls);
        }
        Checks.due("the calls 510 and 511", "508 10", () -> x.rate(0) + " " + x.size(10));
        Checks.due("the call 512", 9, x::undo);
    }
}
