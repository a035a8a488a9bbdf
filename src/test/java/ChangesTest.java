/** Promises 22 to 29: run, setRule, setWeight, setRate, quit, undo, saveSnapshot, restoreSnapshot. */
public final class ChangesTest {
    private static final String NET = "net 2 2 8 100;link 3 10;link 2 20;player a lowest 9 1 30 60;player b buffer 9 2 30 31;";

    public static void main(String[] args) {
        run();
        runToTheLastTime();
        setRule();
        setWeight();
        setRate();
        quit();
        undoOfEach();
        undoOfTen();
        changeAfterUndo();
        undoCountsChanges();
        emptySlot();
        snapshots();
        noSlot();
        snapshotsAndUndo();
        loadedComesBack();
        Checks.end("ChangesTest");
    }

    private static void run() {
        SharedLink x = Checks.net(NET);
        Checks.due("run(1)", 1, () -> x.run(1));
        Checks.due("run(200)", 201, () -> x.run(200));
        Checks.due("the time", 201, () -> x.size(7));
        Checks.illegalArgument("run(0)", () -> x.run(0));
        Checks.illegalArgument("run(-1)", () -> x.run(-1));
        Checks.illegalArgument("run(201)", () -> x.run(201));
        Checks.illegalArgument("run of the greatest int", () -> x.run(Integer.MAX_VALUE));
        Checks.due("the time after exceptions", 201, () -> x.size(7));
        SharedLink one = Checks.net(NET);
        SharedLink many = Checks.net(NET);
        one.run(60);
        for (int i = 0; i < 60; i++) {
            many.run(1);
        }
        Checks.due("60 ticks at once or one by one", Checks.state(one), () -> Checks.state(many));
    }

    private static void runToTheLastTime() {
        SharedLink x = Checks.net("net 1 1 1 10;");
        for (int i = 1; i < 10; i++) {
            x.run(200);
        }
        x.run(100);
        Checks.illegalState("beyond 2000", () -> x.run(101));
        Checks.due("the time stays", "1900 10", () -> x.size(7) + " " + x.size(10));
        Checks.due("just to 2000", 2000, () -> x.run(100));
        Checks.illegalState("from 2000", () -> x.run(1));
        Checks.illegalArgument("the argument is looked at first", () -> x.run(201));
        Checks.due("undo from 2000", 9, x::undo);
        Checks.due("the time then", 1900, () -> x.size(7));
    }

    private static void setRule() {
        SharedLink x = Checks.net(NET);
        Checks.due("rule of b", 1, () -> x.setRule(1, 3));
        Checks.due("rule of b then", 3, () -> x.setRule(1, 2));
        Checks.due("the same again", 2, () -> x.setRule(1, 2));
        Checks.due("that of a", 0, () -> x.player(0, 12));
        Checks.due("set", 2, () -> x.player(1, 12));
        Checks.illegalArgument("rule 4", () -> x.setRule(0, 4));
        Checks.illegalArgument("rule -1", () -> x.setRule(0, -1));
        Checks.outOfBounds("player 2", () -> x.setRule(2, 4));
        Checks.outOfBounds("player -1", () -> x.setRule(-1, 0));
        Checks.due("three changes", 3, () -> x.size(10));
        SharedLink y = Checks.net("net 2 1 8 100;link 1 1000;player a lowest 6 1 10 20 30 40;");
        y.run(4);
        y.setRule(0, 1);
        y.run(1);
        Checks.due("it chooses by the rule of now", "0 0 0 0 2", () -> y.loaded(0, 0, 0) + " " + y.loaded(0, 1, 0) + " "
                + y.loaded(0, 2, 0) + " " + y.loaded(0, 3, 0) + " " + y.loaded(0, 4, 0));
    }

    private static void setWeight() {
        SharedLink x = Checks.net(NET);
        Checks.due("weight of b", 2, () -> x.setWeight(1, 9));
        Checks.due("weight of b then", 9, () -> x.setWeight(1, 1));
        Checks.due("set", "1 1", () -> x.player(0, 13) + " " + x.player(1, 13));
        Checks.illegalArgument("weight 0", () -> x.setWeight(0, 0));
        Checks.illegalArgument("weight 10", () -> x.setWeight(0, 10));
        Checks.outOfBounds("player 2", () -> x.setWeight(2, 0));
        Checks.outOfBounds("player -1", () -> x.setWeight(-1, 1));
        Checks.due("two changes", 2, () -> x.size(10));
        x.run(1);
        Checks.due("even shares", "5 5", () -> x.player(0, 10) + " " + x.player(1, 10));
    }

    private static void setRate() {
        SharedLink x = Checks.net(NET);
        Checks.due("piece 0", 10, () -> x.setRate(0, 9999));
        Checks.due("piece 1", 20, () -> x.setRate(1, 0));
        Checks.due("piece 0 then", 9999, () -> x.setRate(0, 9999));
        Checks.due("set", "9999 0", () -> x.rate(2) + " " + x.rate(3));
        Checks.illegalArgument("rate -1", () -> x.setRate(0, -1));
        Checks.illegalArgument("rate 10000", () -> x.setRate(0, 10000));
        Checks.outOfBounds("piece 2", () -> x.setRate(2, -1));
        Checks.outOfBounds("piece -1", () -> x.setRate(-1, 0));
        Checks.outOfBounds("the greatest piece", () -> x.setRate(Integer.MAX_VALUE, 0));
        Checks.due("three changes", 3, () -> x.size(10));
        x.run(4);
        Checks.due("the link has the rates of now", 29997, () -> x.account(0) + x.account(1));
    }

    private static void quit() {
        SharedLink x = Checks.net(NET);
        x.run(4);
        // a: 4, 4, 4, 8 bytes; b: 6, 6, 6, 12 bytes, and its first segment has come in the tick 3
        Checks.due("bytes of a", "20 10", () -> x.player(0, 10) + " " + x.player(0, 4));
        Checks.due("b has come", "30 -1 1", () -> x.player(1, 10) + " " + x.player(1, 3) + " " + x.player(1, 0));
        Checks.due("in vain", 20, () -> x.quit(0));
        Checks.due("all but the state stays", "4 0 10 20", () -> x.player(0, 0) + " " + x.player(0, 3) + " " + x.player(0, 4)
                + " " + x.player(0, 10));
        Checks.due("nothing in vain", 0, () -> x.quit(1));
        Checks.due("its buffer stays", "4 1 1", () -> x.player(1, 0) + " " + x.player(1, 1) + " " + x.player(1, 5));
        Checks.illegalState("it has quit", () -> x.quit(0));
        x.run(20);
        Checks.due("nothing is loaded or played any more", "20 30 1 1", () -> x.player(0, 10) + " " + x.player(1, 10)
                + " " + x.player(1, 1) + " " + x.player(1, 5));
        Checks.due("its weight can still be set", 1, () -> x.setWeight(0, 4));
        SharedLink y = Checks.net("net 1 1 1 10;player a lowest 1 1 1;player b lowest 1 1 1;join b 9;");
        y.run(1);
        Checks.illegalState("it is done", () -> y.quit(0));
        Checks.due("it has not joined", 0, () -> y.quit(1));
        y.run(20);
        Checks.due("and never joins", "4 0", () -> y.player(1, 0) + " " + y.player(1, 2));
        Checks.outOfBounds("player 2", () -> y.quit(2));
        Checks.outOfBounds("player -1", () -> y.quit(-1));
        SharedLink z = Checks.net("net 1 1 1 10;link 1 3;player a lowest 9 1 9;");
        z.run(5);
        Checks.due("stalled", 2, () -> z.player(0, 0));
        z.quit(0);
        z.run(5);
        Checks.due("no tick is stalled any more", "4 2", () -> z.player(0, 0) + " " + z.player(0, 6));
    }

    private static void change(SharedLink x, int which) {
        switch (which) {
            case 0: x.run(3); break;
            case 1: x.setRule(0, 1); break;
            case 2: x.setWeight(1, 7); break;
            case 3: x.setRate(1, 5); break;
            default: x.quit(1);
        }
    }

    private static void undoOfEach() {
        for (int which = 0; which < 5; which++) {
            SharedLink x = Checks.net(NET);
            x.run(7);
            String before = Checks.state(x);
            change(x, which);
            Checks.due("the change " + which, false, () -> before.equals(Checks.state(x)));
            Checks.due("undo of the change " + which, 1, x::undo);
            Checks.due("after undo of the change " + which, before, () -> Checks.state(x));
        }
        SharedLink x = Checks.net(NET);
        Checks.due("nothing to undo", -1, x::undo);
    }

    private static void undoOfTen() {
        for (int changes = 0; changes <= 13; changes++) {
            SharedLink x = changed(changes);
            Checks.due("changes that can be undone", Math.min(changes, 10), () -> x.size(10));
        }
        for (int changes = 12; changes >= 3; changes--) {
            SharedLink x = undone(13, 12 - changes);
            Checks.due("undo", changes - 3, x::undo);
            Checks.due("the state with " + changes + " changes", Checks.state(changed(changes)), () -> Checks.state(x));
        }
        Checks.due("no more than ten", -1, () -> undone(13, 10).undo());
        Checks.due("that changed nothing", Checks.state(changed(3)), () -> Checks.state(undone(13, 11)));
    }

    private static void changeAfterUndo() {
        SharedLink x = undone(13, 11);
        x.run(4);
        Checks.due("a change after undo", 1, () -> x.size(10));
        Checks.due("it is done as before", Checks.state(changed(4)), () -> Checks.state(x));
        Checks.due("its undo", 0, x::undo);
        Checks.due("the state", Checks.state(changed(3)), () -> Checks.state(x));
    }

    private static SharedLink changed(int changes) {
        SharedLink x = Checks.net(NET);
        for (int i = 0; i < changes; i++) {
            if (i == 5) {
                x.setRate(0, 3);
            } else {
                x.run(i + 1);
            }
        }
        return x;
    }

    private static SharedLink undone(int changes, int undos) {
        SharedLink x = changed(changes);
        for (int i = 0; i < undos; i++) {
            x.undo();
        }
        return x;
    }

    private static void undoCountsChanges() {
        SharedLink x = Checks.net(NET);
        x.setRule(0, 0);
        x.setWeight(0, 1);
        x.setRate(0, 10);
        Checks.due("changes that alter nothing", 3, () -> x.size(10));
        Checks.told(() -> x.run(0));
        Checks.told(() -> x.setRule(0, 9));
        Checks.told(() -> x.setWeight(0, 0));
        Checks.told(() -> x.setRate(0, -1));
        Checks.told(() -> x.quit(5));
        x.share(0);
        x.forecast(0, 0);
        x.regret(0);
        x.leastRate();
        x.saveSnapshot(0);
        Checks.find(x, "a");
        Checks.due("what is no change", 3, () -> x.size(10));
        x.quit(0);
        Checks.illegalState("quit twice", () -> x.quit(0));
        Checks.due("one more", 3, x::undo);
        Checks.due("a plays again", 0, () -> x.player(0, 0));
    }

    /** With a snapshot of the time 0 in slot 0, and five changes behind it. */
    private static SharedLink changedBehindSlot0() {
        SharedLink x = Checks.net(NET);
        Checks.illegalState("slot 0 is empty", () -> x.restoreSnapshot(0));
        Checks.due("slot 0", false, () -> x.saveSnapshot(0));
        x.run(9);
        x.setRate(0, 77);
        x.setRule(1, 2);
        x.setWeight(0, 8);
        x.quit(1);
        return x;
    }

    private static void emptySlot() {
        SharedLink x = changedBehindSlot0();
        Checks.illegalState("slot 1 is empty", () -> x.restoreSnapshot(1));
        String due = Checks.state(changedBehindSlot0());
        Checks.due("an exception changes nothing", "5 " + due, () -> x.size(10) + " " + Checks.state(x));
    }

    private static void snapshots() {
        String later = Checks.state(changedBehindSlot0());
        SharedLink x = changedBehindSlot0();
        Checks.due("slot 1", false, () -> x.saveSnapshot(1));
        Checks.due("to slot 0", 0, () -> x.restoreSnapshot(0));
        Checks.due("all of it", Checks.state(Checks.net(NET)), () -> Checks.state(x));
        Checks.due("the undo history is cleared", "0 -1", () -> x.size(10) + " " + x.undo());
        x.run(30);
        Checks.due("to slot 1", 9, () -> x.restoreSnapshot(1));
        Checks.due("all of it", later, () -> Checks.state(x));
        x.run(30);
        Checks.due("to slot 1 again", 9, () -> x.restoreSnapshot(1));
        Checks.due("it stays stored", later, () -> Checks.state(x));
        Checks.due("slot 0 again", true, () -> x.saveSnapshot(0));
        x.run(1);
        Checks.due("the later one counts", 9, () -> x.restoreSnapshot(0));
    }

    private static void noSlot() {
        SharedLink x = changedBehindSlot0();
        for (int slot : new int[] {-1, 2, Integer.MAX_VALUE, Integer.MIN_VALUE}) {
            Checks.outOfBounds("save in slot " + slot, () -> x.saveSnapshot(slot));
            Checks.outOfBounds("restore slot " + slot, () -> x.restoreSnapshot(slot));
        }
    }

    private static SharedLink loading() {
        return Checks.net("net 2 1 8 100;link 1 40;player a buffer 9 1 10 20 30 40;player b rate 9 1 10 20;join b 2;");
    }

    /** The first way in slot 0, the beginning in slot 1, and another way now. */
    private static SharedLink twoWays() {
        SharedLink x = loading();
        x.saveSnapshot(1);
        x.run(9);
        x.saveSnapshot(0);
        x.restoreSnapshot(1);
        x.setRate(0, 7);
        x.setRule(1, 0);
        x.run(30);
        return x;
    }

    /** The segments that were loaded come back too, where others have been loaded in between. */
    private static void loadedComesBack() {
        SharedLink first = loading();
        first.run(9);
        String due = Checks.state(first);
        Checks.due("another way", false, () -> due.equals(Checks.state(twoWays())));
        SharedLink x = twoWays();
        x.restoreSnapshot(0);
        Checks.due("the first way by a snapshot", due, () -> Checks.state(x));
        x.restoreSnapshot(1);
        x.run(9);
        Checks.due("the first way by the same changes", due, () -> Checks.state(x));
        SharedLink y = twoWays();
        y.undo();
        y.undo();
        y.undo();
        y.run(9);
        y.undo();
        y.setRate(0, 3);
        y.run(40);
        y.undo();
        y.undo();
        y.run(9);
        Checks.due("the first way by undo", due, () -> Checks.state(y));
    }

    private static void snapshotsAndUndo() {
        SharedLink x = Checks.net(NET);
        x.run(5);
        x.saveSnapshot(0);
        Checks.due("undo behind a snapshot", 0, x::undo);
        Checks.due("the snapshot stays", 5, () -> x.restoreSnapshot(0));
        Checks.due("undo does not go behind restore", -1, x::undo);
        x.run(1);
        Checks.due("a change after restore", 0, x::undo);
        Checks.due("to the snapshot", 5, () -> x.size(7));
    }
}
