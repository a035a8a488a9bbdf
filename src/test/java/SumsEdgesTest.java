/** Promises 18 to 21: each sentence that names a boundary case has a test of its own, which begins with it. */
public final class SumsEdgesTest {
    public static void main(String[] args) {
        fairnessOfNoByte();
        fairnessByWeights();
        fairnessOfPlayers();
        fairnessInOrder();
        meanWithoutSegments();
        meanAsDouble();
        meanNobody();
        wholeBytes();
        wholeEverywhere();
        accountWhat();
        accountUnused();
        accountStalled();
        accountCame();
        accountSinceParse();
        Checks.end("SumsEdgesTest");
    }

    private static SharedLink ran(String text, int ticks) {
        SharedLink x = Checks.net(text);
        x.run(ticks);
        return x;
    }

    // ---- promise 18

    private static void fairnessOfNoByte() {
        Checks.sentence("Promise 18 (fairness)", "1.0 if no player got a byte.");
        Checks.due("without players", 1.0, () -> new SharedLink().fairness());
        SharedLink x = Checks.net("net 1 1 1 10;link 1 0;player a lowest 9 9 99;player b lowest 9 1 99;");
        Checks.due("at first", 1.0, x::fairness);
        x.run(5);
        Checks.due("the link has brought none", 1.0, x::fairness);
        x.setRate(0, 1);
        x.run(1);
        Checks.due("a single byte of a", 0.5, x::fairness);
        x.undo();
        Checks.due("undone", 1.0, x::fairness);
        x.quit(0);
        x.quit(1);
        Checks.due("all have quit", 1.0, x::fairness);
        Checks.due("a single player", 1.0, () -> ran("net 1 1 1 10;player a lowest 9 9 99;", 1).fairness());
    }

    private static void fairnessByWeights() {
        Checks.sentence("Promise 18 (fairness)", "with b the bytes that a player got, divided by its weight (as doubles)");
        String two = "net 1 1 1 10;link 1 10;player a lowest 9 1 99;player b lowest 9 9 99;";
        SharedLink x = ran(two, 1);
        Checks.due("1 by 1 and 9 by 9", "1 9 1.0", () -> Checks.row(0, 1, p -> x.player(p, 10)) + " " + x.fairness());
        x.setWeight(1, 2);
        Checks.due("1 by 1 and 9 by 2", 5.5 * 5.5 / (2 * (1.0 + 4.5 * 4.5)), x::fairness);
        x.setWeight(0, 9);
        double ninth = 1.0 / 9.0;
        Checks.due("1 by 9 and 9 by 2", (ninth + 4.5) * (ninth + 4.5) / (2 * (ninth * ninth + 4.5 * 4.5)), x::fairness);
    }

    private static void fairnessOfPlayers() {
        Checks.sentence("Promise 18 (fairness)", "divided by (the number of players * the sum of the squares of all b)");
        String all = "net 1 1 1 10;link 1 30;player a lowest 9 1 99;player b lowest 9 1 99;player c lowest 9 1 99;player d lowest 9 1 99;";
        Checks.due("one of four has joined", 0.25, () -> ran(all + "join b 9;join c 9;join d 9;", 1).fairness());
        Checks.due("two of four", 0.5, () -> ran(all + "join b 9;join c 9;", 1).fairness());
        Checks.due("three of four", 0.75, () -> ran(all + "join b 9;", 1).fairness());
        SharedLink x = ran(all + "join b 9;", 1);
        x.quit(0);
        x.quit(1);
        Checks.due("also if they have quit", 0.75, x::fairness);
    }

    private static void fairnessInOrder() {
        Checks.sentence("Promise 18 (fairness)", "as doubles, the sums from 0.0 on in ascending order");
        SharedLink x = Checks.net("net 1 1 1 10;link 1 9;link 1 7;link 1 5;player a lowest 9 3 99;player b lowest 9 7 98;player c lowest 9 9 97;"
                + "player d lowest 9 6 95;join a 2;join c 1;");
        for (int tick = 0; tick < 30; tick++) {
            x.run(1);
            double sum = 0.0;
            double squares = 0.0;
            for (int p = 0; p < 4; p++) {
                double b = (double) x.player(p, 10) / (double) x.player(p, 13);
                sum += b;
                squares += b * b;
            }
            Checks.due("after the tick " + tick, sum * sum / (4 * squares), x::fairness);
        }
    }

    // ---- promise 19

    private static void meanWithoutSegments() {
        Checks.sentence("Promise 19 (meanQuality)", "0.0 without segments.");
        SharedLink x = Checks.net("net 1 1 1 10;link 1 5;player a lowest 9 9 9;");
        Checks.due("at first", 0.0, () -> x.meanQuality(0));
        x.run(1);
        Checks.due("while it loads the first", 0.0, () -> x.meanQuality(0));
        x.run(1);
        Checks.due("with one of quality 0", "1 0.0", () -> x.player(0, 2) + " " + x.meanQuality(0));
        x.quit(0);
        Checks.due("it has quit", 0.0, () -> x.meanQuality(0));
    }

    /** The buffer is t at the time t; the qualities are 0 0 0 1 1 2 2 2 3 3. */
    private static void meanAsDouble() {
        Checks.sentence("Promise 19 (meanQuality)", "the sum of the qualities, converted to double, divided by their number");
        SharedLink x = Checks.net("net 1 60 10 100;link 1 9999;player a buffer 30 1 1 2 3 4;");
        double[] sums = {0, 0, 0, 1, 2, 4, 6, 8, 11, 14};
        for (int i = 0; i < sums.length; i++) {
            double due = sums[i] / (i + 1);
            x.run(1);
            Checks.due("of " + (i + 1), due, () -> x.meanQuality(0));
        }
    }

    private static void meanNobody() {
        Checks.sentence("Promise 19 (meanQuality)", "Throws IndexOutOfBoundsException if there is no such player");
        SharedLink x = Checks.net("net 1 1 1 10;player a lowest 9 9 9;player b lowest 1 1 1;");
        for (int player : new int[] {-1, 2, 3, 4, Integer.MAX_VALUE, Integer.MIN_VALUE}) {
            Checks.outOfBounds("meanQuality(" + player + ")", () -> x.meanQuality(player));
        }
        Checks.due("the last", 0.0, () -> x.meanQuality(1));
        Checks.outOfBounds("without players", () -> new SharedLink().meanQuality(0));
    }

    // ---- promise 20

    /** What isWhole says is seen from outside, too. */
    private static void wholeBytes() {
        Checks.sentence("Promise 20 (isWhole)", "the bytes that all players got are those that went through the link, those of each player are the sizes of the segments"
                + " that it loaded and what it has of the one that it loads, and its ticks played and its buffer together are the segments"
                + " that it loaded times length");
        for (int time = 1; time <= 60; time++) {
            SharedLink x = Checks.net("net 3 2 9 70;link 3 20;link 2 3;vary 50 133;player a mix 9 1 10 20 40;player b rate 9 2 30;join b 4;");
            x.run(Math.min(time, 20));
            if (time > 20) {
                x.quit(0);
                x.run(time - 20);
            }
            Checks.due("all bytes", x.account(0), () -> x.player(0, 10) + x.player(1, 10));
            for (int p = 0; p < 2; p++) {
                int player = p;
                Checks.due("the bytes of " + p, x.player(p, 10), () -> bytes(x, player));
                Checks.due("the ticks of " + p, x.player(p, 2) * 3, () -> x.player(player, 5) + x.player(player, 1));
            }
            Checks.due("whole", true, x::isWhole);
        }
    }

    private static int bytes(SharedLink x, int player) {
        int sum = 0;
        for (int k = 0; k < x.player(player, 2); k++) {
            sum += x.loaded(player, k, 1);
        }
        int quality = x.player(player, 3);
        return quality < 0 ? sum : sum + x.sizeOf(player, x.player(player, 2), quality) - x.player(player, 4);
    }

    private static void wholeEverywhere() {
        Checks.sentence("Promise 20 (isWhole)", "(It always is so.)");
        Checks.due("a new object", true, () -> new SharedLink().isWhole());
        SharedLink x = Checks.net("net 2 2 4 100;link 1 10;player a lowest 3 1 35;player b buffer 9 1 5 6;join b 3;");
        Checks.due("at 0", true, x::isWhole);
        x.run(5);
        Checks.due("in the midst of a segment", true, x::isWhole);
        x.saveSnapshot(0);
        x.quit(0);
        Checks.due("after quit", true, x::isWhole);
        x.run(30);
        Checks.due("later", true, x::isWhole);
        x.undo();
        Checks.due("after undo", true, x::isWhole);
        x.restoreSnapshot(0);
        Checks.due("after restore", true, x::isWhole);
        Checks.parse(x, "net 2");
        Checks.due("after a parse error", true, x::isWhole);
        Checks.parse(x, "net 1 1 1 10;");
        Checks.due("after a parse", true, x::isWhole);
    }

    // ---- promise 21

    private static void accountWhat() {
        Checks.sentence("Promise 21 (account)", "Throws IllegalArgumentException if what is out of range");
        SharedLink x = ran("net 1 1 1 10;link 1 10;player a lowest 2 1 15;", 3);
        for (int what : new int[] {-1, 4, 5, Integer.MAX_VALUE, Integer.MIN_VALUE}) {
            Checks.illegalArgument("account(" + what + ")", () -> x.account(what));
        }
        // 10, 5 and 10 bytes; the first segment comes in the tick 1 and is played, the tick 2 is stalled
        Checks.due("0 to 3", "25 5 1 1", () -> Checks.row(0, 3, x::account));
    }

    private static void accountUnused() {
        Checks.sentence("Promise 21 (account)", "0 bytes that went through the link, 1 bytes of its rates that were not used");
        SharedLink x = Checks.net("net 1 60 9 10;link 1 10;link 1 0;link 1 9999;player a lowest 2 1 10;join a 3;");
        String[] due = {"0 10", "0 10", "0 10009", "10 10009", "10 10009", "20 19998", "20 20008"};
        for (String sums : due) {
            x.run(1);
            Checks.due("after the tick " + (x.size(7) - 1), sums, () -> x.account(0) + " " + x.account(1));
        }
        SharedLink y = ran("net 1 1 1 10;link 1 9999;", 200);
        for (int i = 0; i < 9; i++) {
            y.run(200);
        }
        Checks.due("the most there can be", 2000 * 9999, () -> y.account(1));
    }

    private static void accountStalled() {
        Checks.sentence("Promise 21 (account)", "2 ticks stalled of all players");
        SharedLink x = ran("net 1 1 1 10;link 1 20;player a lowest 9 1 10;player b lowest 9 1 10;", 1);
        x.setRate(0, 0);
        x.run(3);
        Checks.due("both", "3 3 6", () -> Checks.row(0, 1, p -> x.player(p, 6)) + " " + x.account(2));
        x.quit(1);
        x.run(1);
        Checks.due("a alone, with what b had", "4 3 7", () -> Checks.row(0, 1, p -> x.player(p, 6)) + " " + x.account(2));
    }

    private static void accountCame() {
        Checks.sentence("Promise 21 (account)", "3 segments that came");
        SharedLink x = Checks.net("net 1 60 9 10;link 1 19;player a lowest 9 1 10;player b lowest 9 1 10;");
        // of 19 bytes a gets 10 and b 9; in every second tick b needs a single byte for the segment before
        int[] due = {1, 3, 4, 6};
        for (int came : due) {
            x.run(1);
            Checks.due("after the tick " + (x.size(7) - 1), came, () -> x.account(3));
        }
        x.quit(0);
        x.run(1);
        Checks.due("what came stays, and one of b", 7, () -> x.account(3));
    }

    private static void accountSinceParse() {
        Checks.sentence("Promise 21 (account)", "Returns a sum since parse.");
        SharedLink x = ran("net 1 1 1 10;link 1 10;player a lowest 9 1 15;", 5);
        Checks.due("sums", true, () -> x.account(0) > 0 && x.account(1) > 0 && x.account(2) > 0 && x.account(3) > 0);
        String before = Checks.row(0, 3, x::account);
        Checks.parse(x, "net 1 1 1 10;link 1 10;player a lowest 9 1 15");
        Checks.due("after a parse error", before, () -> Checks.row(0, 3, x::account));
        Checks.parse(x, "net 1 1 1 10;link 1 10;player a lowest 9 1 15;");
        Checks.due("after a parse", "0 0 0 0", () -> Checks.row(0, 3, x::account));
        x.run(5);
        Checks.due("as before", before, () -> Checks.row(0, 3, x::account));
    }
}
