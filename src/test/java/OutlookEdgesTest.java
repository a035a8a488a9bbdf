import java.util.function.IntFunction;

/** Promises 11 to 17: each sentence that names a boundary case has a test of its own, which begins with it. */
public final class OutlookEdgesTest {
    private static final int LEAST = Integer.MIN_VALUE;
    private static final int MOST = Integer.MAX_VALUE;
    /** A buffer that holds one tick alone: each segment but the first one must come in the tick in which it is asked for. */
    private static final String TIGHT = "player a lowest 3 1 10 20 30 40;";
    /** The rule stalls and gets 10; the oracle 3, 3, 1, 0, 0, 0. */
    private static final String GREEDY = "net 1 2 2 100;link 1 10;player a buffer 6 1 1 20 40 80;";

    public static void main(String[] args) {
        wouldChooseAtAnyTime();
        wouldChooseAllAsked();
        wouldChooseQuit();
        wouldChooseNobody();
        shareInTheNextTick();
        shareWithJoin();
        shareAtTheEnd();
        shareNobody();
        forecastProperties();
        forecastWhat();
        forecastNobody();
        steadyGreatest();
        steadyTicksStalled();
        steadyDone();
        steadyNone();
        steadyAllAsked();
        steadyOthers();
        steadyNobody();
        oracleOfEach();
        oracleBefore();
        oracleNoneIsZero();
        oracleK();
        oracleQuit();
        oracleNobody();
        regretGreater();
        regretNegative();
        regretQuit();
        regretNobody();
        leastRateOfMultiples();
        leastRateNone();
        leastRateQuit();
        leastRateStalled();
        leastRateDone();
        nothingStays();
        Checks.end("OutlookEdgesTest");
    }

    private static SharedLink ran(String text, int ticks) {
        SharedLink x = Checks.net(text);
        x.run(ticks);
        return x;
    }

    /** Runs to a time, 1 or more ticks ahead. */
    private static void runTo(SharedLink x, int time) {
        while (x.size(7) < time) {
            x.run(Math.min(200, time - x.size(7)));
        }
    }

    private static SharedLink tight(int rate) {
        return Checks.net("net 1 1 1 100;link 1 " + rate + ";" + TIGHT);
    }

    /** The first segment has been played; the second has been loading for three ticks, and none of its 10 bytes came. */
    private static SharedLink stalledThrice(int rate) {
        SharedLink x = tight(10);
        x.run(1);
        x.setRate(0, 0);
        x.run(3);
        Checks.due("stalled, ticks, missing", "2 3 10", () -> x.player(0, 0) + " " + x.player(0, 6) + " " + x.player(0, 4));
        x.setRate(0, rate);
        return x;
    }

    /** The first segment, of 1 byte, has been loading since 0; what is left of the time is told by the time. */
    private static SharedLink late(int time) {
        SharedLink x = Checks.net("net 1 1 1 10;link 1 0;player a lowest 2 1 1 2;");
        runTo(x, time);
        x.setRate(0, 9);
        return x;
    }

    private static void nobody(String call, IntFunction<Object> ofTwo, IntFunction<Object> ofNone) {
        for (int player : new int[] {-1, 2, 3, 4, MOST, LEAST}) {
            Checks.outOfBounds(call + " of player " + player + " of two", () -> ofTwo.apply(player));
        }
        Checks.outOfBounds(call + " without players", () -> ofNone.apply(0));
    }

    private static SharedLink two() {
        return ran("net 2 2 8 100;link 1 10;player a lowest 4 1 10 20;player b buffer 4 1 10 20;", 2);
    }

    // ---- promise 11

    private static void wouldChooseAtAnyTime() {
        Checks.sentence("Promise 11 (wouldChoose)", "Returns the quality that a player would choose for its next segment now, whether it can ask for it or not.");
        SharedLink x = ran("net 20 60 20 100;link 1 10;player a buffer 9 1 10 20;join a 1;", 1);
        Checks.due("it can ask", 0, () -> x.wouldChoose(0));
        x.undo();
        Checks.due("it has not joined", 0, () -> x.wouldChoose(0));
        x.run(2);
        Checks.due("its buffer plus length is more than full", "20 1", () -> x.player(0, 1) + " " + x.wouldChoose(0));
        SharedLink y = ran("net 1 60 200 100;vary 100 50;link 1 10;player r rate 9 1 10 20;", 1);
        Checks.due("the size of segment 1", "10 1", () -> y.player(0, 11) + " " + y.wouldChoose(0));
        y.setRate(0, 1);
        y.run(1);
        Checks.due("while it loads segment 1, that of segment 2", "1 0", () -> y.player(0, 3) + " " + y.wouldChoose(0));
        y.run(9);
        Checks.due("measured 1: no size of segment 2", "1 0", () -> y.player(0, 11) + " " + y.wouldChoose(0));
    }

    private static void wouldChooseAllAsked() {
        Checks.sentence("Promise 11 (wouldChoose)", "NONE if it has asked for all its segments already");
        SharedLink x = ran("net 1 1 1 100;link 1 10;player a lowest 3 1 20;", 4);
        Checks.due("one is left", "2 0", () -> x.player(0, 2) + " " + x.wouldChoose(0));
        x.run(1);
        Checks.due("it loads the last", "2 -1", () -> x.player(0, 2) + " " + x.wouldChoose(0));
        x.run(1);
        Checks.due("it has loaded all", "3 -1", () -> x.player(0, 2) + " " + x.wouldChoose(0));
        SharedLink one = ran("net 1 1 1 100;link 1 0;player a lowest 1 1 20;join a 1;", 1);
        Checks.due("a single one", 0, () -> one.wouldChoose(0));
        one.run(1);
        Checks.due("is asked for", -1, () -> one.wouldChoose(0));
    }

    private static void wouldChooseQuit() {
        Checks.sentence("Promise 11 (wouldChoose)", "NONE if it has asked for all its segments already, or has quit.");
        SharedLink x = tight(10);
        Checks.due("before", 0, () -> x.wouldChoose(0));
        x.quit(0);
        Checks.due("it has quit", -1, () -> x.wouldChoose(0));
        x.undo();
        Checks.due("undone", 0, () -> x.wouldChoose(0));
    }

    private static void wouldChooseNobody() {
        Checks.sentence("Promise 11 (wouldChoose)", "Throws IndexOutOfBoundsException if there is no such player");
        nobody("wouldChoose", two()::wouldChoose, new SharedLink()::wouldChoose);
    }

    // ---- promise 12

    private static void shareInTheNextTick() {
        Checks.sentence("Promise 12 (share)", "Returns the bytes that a player would get from the link in the next tick.");
        SharedLink x = Checks.net("net 2 1 2 100;link 1 7;link 1 0;link 1 9;player a lowest 3 1 10;");
        // a segment comes in the ticks 2, 6 and 9; the buffer is 1 at the times 3 and 7, so it asks in 0, 4 and 8
        int[] due = {7, 0, 3, 0, 0, 9, 1, 0, 9, 1};
        for (int bytes : due) {
            int before = x.player(0, 10);
            Checks.due("in the tick " + x.size(7), bytes, () -> x.share(0));
            x.run(1);
            Checks.due("it got them", before + bytes, () -> x.player(0, 10));
        }
        x.quit(0);
        Checks.due("it has quit", 0, () -> x.share(0));
        SharedLink y = Checks.net("net 1 1 1 10;player a lowest 1 1 5;player b lowest 2 1 200;");
        Checks.due("all of its need, and the rest", "5 95", () -> Checks.row(0, 1, y::share));
        y.run(1);
        Checks.due("a is done", "0 100", () -> Checks.row(0, 1, y::share));
    }

    private static void shareWithJoin() {
        Checks.sentence("PLAYERS", "A player has joined if the time is at least its tick of join");
        SharedLink x = ran("net 1 1 1 10;link 1 8;player a lowest 1 1 50;player b lowest 1 3 50;join b 2;", 1);
        Checks.due("b joins in the tick 2, not in 1", "8 0", () -> Checks.row(0, 1, x::share));
        x.run(1);
        Checks.due("b joins in the next tick", "2 6", () -> Checks.row(0, 1, x::share));
    }

    private static void shareAtTheEnd() {
        Checks.sentence("Promise 12 (share)", "the bytes that a player would get from the link in the next tick");
        SharedLink x = Checks.net("net 1 1 1 10;link 1 1;player a lowest 1 1 9999;");
        runTo(x, 1999);
        Checks.due("at 1999", "1999 1", () -> x.player(0, 10) + " " + x.share(0));
        x.run(1);
        Checks.due("at 2000", "2000 1", () -> x.player(0, 10) + " " + x.share(0));
        x.setRate(0, 9999);
        Checks.due("all that is missing", 7999, () -> x.share(0));
        Checks.due("nothing has changed", "2000 2000", () -> x.player(0, 10) + " " + x.size(7));
    }

    private static void shareNobody() {
        Checks.sentence("Promise 12 (share)", "Throws IndexOutOfBoundsException if there is no such player");
        nobody("share", two()::share, new SharedLink()::share);
    }

    // ---- promise 13

    private static void forecastProperties() {
        Checks.sentence("Promise 13 (forecast)", "Returns a property that a player would have at the end of a forecast.");
        // Each segment of 2 ticks takes 3 ticks to come: stalled in the ticks 4 and 7, done in the tick 9.
        String stalling = "net 2 2 4 100;link 1 10;player a lowest 3 1 30;";
        SharedLink x = Checks.net(stalling + "player b lowest 9 1 10;");
        x.quit(1);
        for (int time = 0; time <= 10; time++) {
            Checks.due("of a at " + time, "2 2 0 0 3 10", () -> Checks.row(0, 5, what -> x.forecast(0, what)));
            Checks.due("of b, which has quit", "0 0 0 0 0 10", () -> Checks.row(0, 5, what -> x.forecast(1, what)));
            x.run(1);
        }
        Checks.due("all is over", "2 2 0 0 3 11", () -> Checks.row(0, 5, what -> x.forecast(0, what)));
        SharedLink y = Checks.net("net 2 1 8 100;link 1 1000;player a buffer 6 1 10 20 30 40;");
        Checks.due("qualities 0 0 1 1 2 2", "0 0 2 6 6 12", () -> Checks.row(0, 5, what -> y.forecast(0, what)));
        y.run(3);
        Checks.due("what has been counts as well", "0 0 2 6 6 12", () -> Checks.row(0, 5, what -> y.forecast(0, what)));
    }

    private static void forecastWhat() {
        Checks.sentence("Promise 13 (forecast)", "Throws IllegalArgumentException if what is out of range");
        SharedLink x = two();
        for (int what : new int[] {-1, 6, 7, MOST, LEAST}) {
            Checks.illegalArgument("forecast(0, " + what + ")", () -> x.forecast(0, what));
        }
        // a and b get 5 each, so a segment of 2 ticks takes 2 ticks; the fourth comes in the tick 7
        Checks.due("0 to 5", "0 0 0 0 4 9", () -> Checks.row(0, 5, what -> x.forecast(0, what)));
    }

    private static void forecastNobody() {
        Checks.sentence("Promise 13 (forecast)", "Throws IndexOutOfBoundsException if there is no such player (checked first)");
        SharedLink x = two();
        SharedLink none = new SharedLink();
        for (int what : new int[] {0, 5, 6, -1}) {
            nobody("forecast", p -> x.forecast(p, what), p -> none.forecast(p, what));
        }
    }

    // ---- promise 14

    private static void steadyGreatest() {
        Checks.sentence("Promise 14 (steadyQuality)", "Returns the greatest quality with which a player would not stall any more");
        int[][] due = {{9999, 3}, {41, 3}, {40, 3}, {39, 2}, {30, 2}, {29, 1}, {20, 1}, {19, 0}, {10, 0}};
        for (int[] row : due) {
            Checks.due("at the rate " + row[0], row[1], () -> tight(row[0]).steadyQuality(0));
        }
        Checks.sentence("Promise 14 (steadyQuality)", "if it chose it for all segments for which it has not asked yet");
        SharedLink x = tight(20);
        x.run(1);
        x.setRate(0, 40);
        Checks.due("from the second one on", 3, () -> x.steadyQuality(0));
        SharedLink y = ran("net 1 1 1 100;link 1 5;" + TIGHT, 1);
        y.setRate(0, 30);
        Checks.due("the first is loading in quality 0", "0 2", () -> y.player(0, 3) + " " + y.steadyQuality(0));
    }

    private static void steadyTicksStalled() {
        Checks.sentence("Promise 14 (steadyQuality)", "its ticks stalled at the end are as many as now");
        Checks.due("the second comes in the next tick", 3, () -> stalledThrice(40).steadyQuality(0));
        Checks.due("the third in quality 2", 2, () -> stalledThrice(30).steadyQuality(0));
        Checks.due("the third in quality 0", 0, () -> stalledThrice(10).steadyQuality(0));
        Checks.due("one tick more is stalled", -1, () -> stalledThrice(9).steadyQuality(0));
        Checks.due("a first segment that takes its time is no stall", 0, () -> {
            SharedLink x = ran("net 1 1 1 100;link 9 1;link 99 10;" + TIGHT, 1);
            return x.steadyQuality(0);
        });
    }

    private static void steadyDone() {
        Checks.sentence("Promise 14 (steadyQuality)", "and it is done");
        Checks.due("two ticks are left", 1, () -> late(1998).steadyQuality(0));
        Checks.due("one tick is left", -1, () -> late(1999).steadyQuality(0));
        Checks.due("none is left", -1, () -> late(2000).steadyQuality(0));
        SharedLink x = Checks.net("net 1 1 1 10;link 1 1;player a lowest 1 1 1999 2000 2001;");
        Checks.due("a single one that takes 2000 ticks", 1, () -> x.steadyQuality(0));
        SharedLink y = Checks.net("net 2 60 2 10;player a lowest 3 1 1;");
        Checks.due("it never starts", -1, () -> y.steadyQuality(0));
    }

    private static void steadyNone() {
        Checks.sentence("Promise 14 (steadyQuality)", "NONE if there is none");
        Checks.due("at the rate 10", 0, () -> tight(10).steadyQuality(0));
        Checks.due("at the rate 9", -1, () -> tight(9).steadyQuality(0));
        Checks.due("at the rate 0", -1, () -> tight(0).steadyQuality(0));
    }

    private static void steadyAllAsked() {
        Checks.sentence("Promise 14 (steadyQuality)", "if it has asked for all its segments already, or has quit");
        SharedLink x = ran("net 1 1 1 100;link 1 10;player a lowest 3 1 10;", 2);
        Checks.due("one is left", 0, () -> x.steadyQuality(0));
        x.setRate(0, 9);
        x.run(1);
        x.setRate(0, 10);
        Checks.due("it loads the last", "2 -1", () -> x.player(0, 2) + " " + x.steadyQuality(0));
        x.run(1);
        Checks.due("it is done", "3 -1", () -> x.player(0, 0) + " " + x.steadyQuality(0));
        SharedLink y = tight(40);
        Checks.due("before", 3, () -> y.steadyQuality(0));
        y.quit(0);
        Checks.due("it has quit", -1, () -> y.steadyQuality(0));
    }

    private static void steadyOthers() {
        Checks.sentence("Promise 14 (steadyQuality)", "(all other players by their rules)");
        SharedLink x = Checks.net("net 1 1 1 100;link 1 40;" + TIGHT + "player b lowest 30 1 10 9999;");
        Checks.due("b takes 10 in each tick", 2, () -> x.steadyQuality(0));
        x.setWeight(1, 9);
        Checks.due("b by its weight takes no more", 2, () -> x.steadyQuality(0));
        x.quit(1);
        Checks.due("b has quit", 3, () -> x.steadyQuality(0));
        SharedLink y = Checks.net("net 1 1 1 100;link 1 40;" + TIGHT + "player b lowest 30 1 9999;");
        Checks.due("b need not be done, nor play at all", 1, () -> y.steadyQuality(0));
    }

    private static void steadyNobody() {
        Checks.sentence("Promise 14 (steadyQuality)", "Throws IndexOutOfBoundsException if there is no such player");
        nobody("steadyQuality", two()::steadyQuality, new SharedLink()::steadyQuality);
    }

    // ---- promise 15

    private static void oracleOfEach() {
        Checks.sentence("Promise 15 (oracle)", "For each segment for which it has not asked yet, in ascending order, that is the greatest quality with which,"
                + " by a forecast, it would not stall any more");
        int[] rates = {9999, 40, 39, 30, 29, 20, 19, 10};
        String[] due = {"3 3 3 -1", "3 3 3 -1", "3 2 2 -1", "3 2 2 -1", "3 1 1 -1", "3 1 1 -1", "3 0 0 -1", "3 0 0 -1"};
        for (int i = 0; i < rates.length; i++) {
            SharedLink x = tight(rates[i]);
            Checks.due("at the rate " + rates[i], due[i], () -> Checks.row(0, 3, k -> x.oracle(0, k)));
        }
        SharedLink y = stalledThrice(39);
        Checks.due("the one that is left", "2 -1", () -> Checks.row(0, 1, k -> y.oracle(0, k)));
    }

    /** At 10 bytes in a tick, with segments of 2 ticks: 40 bytes take 4 ticks, 20 just as many as they last. */
    private static void oracleBefore() {
        Checks.sentence("Promise 15 (oracle)", "if it chose for the segments before what it would choose so, and 0 for all segments behind");
        SharedLink x = Checks.net("net 2 2 8 100;link 1 10;player a lowest 4 1 10 20 40;");
        Checks.due("the first delays the start alone", "2 1 1 1 -1", () -> Checks.row(0, 4, k -> x.oracle(0, k)));
        SharedLink y = Checks.net("net 2 4 8 100;link 1 10;player a lowest 4 1 10 20 40;");
        // two segments before it starts: both may take their time; with 40, 40 it starts with 4 at the tick 7
        Checks.due("the first two delay the start alone", "2 2 2 1 -1", () -> Checks.row(0, 4, k -> y.oracle(0, k)));
        SharedLink z = Checks.net(GREEDY);
        Checks.due("greedy", "3 3 1 0 0 0 -1", () -> Checks.row(0, 6, k -> z.oracle(0, k)));
    }

    private static void oracleNoneIsZero() {
        Checks.sentence("Promise 15 (oracle)", "0 if there is none.");
        SharedLink x = tight(9);
        Checks.due("at the rate 9", "0 0 0 -1", () -> Checks.row(0, 3, k -> x.oracle(0, k)));
        SharedLink y = stalledThrice(9);
        Checks.due("the next tick is stalled anyhow", "0 -1", () -> Checks.row(0, 1, k -> y.oracle(0, k)));
        SharedLink z = tight(0);
        Checks.due("nothing ever comes", "0 0 0 -1", () -> Checks.row(0, 3, k -> z.oracle(0, k)));
        Checks.due("two ticks are left", "1 -1", () -> {
            SharedLink late = late(1998);
            return Checks.row(0, 1, k -> late.oracle(0, k));
        });
        Checks.due("one tick is left", "0 -1", () -> {
            SharedLink late = late(1999);
            return Checks.row(0, 1, k -> late.oracle(0, k));
        });
        Checks.due("no tick is left", "0 -1", () -> {
            SharedLink late = late(2000);
            return Checks.row(0, 1, k -> late.oracle(0, k));
        });
    }

    private static void oracleK() {
        Checks.sentence("Promise 15 (oracle)", "NONE if there are not so many segments left, k is negative");
        SharedLink x = ran("net 1 1 1 100;link 1 10;player a lowest 3 1 20 30;", 1);
        Checks.due("it loads the first: two are left", "-1 0 0 -1", () -> Checks.row(-1, 2, k -> x.oracle(0, k)));
        x.setRate(0, 30);
        Checks.due("at the rate 30", "-1 1 1 -1", () -> Checks.row(-1, 2, k -> x.oracle(0, k)));
        x.run(1);
        Checks.due("the first has come: two are left", "-1 1 1 -1", () -> Checks.row(-1, 2, k -> x.oracle(0, k)));
        x.run(1);
        Checks.due("the second has come: one is left", "-1 1 -1 -1", () -> Checks.row(-1, 2, k -> x.oracle(0, k)));
        x.setRate(0, 5);
        x.run(1);
        Checks.due("it loads the last: none is left", "-1 -1 -1", () -> Checks.row(-1, 1, k -> x.oracle(0, k)));
        x.setRate(0, 99);
        x.run(1);
        Checks.due("it is done", "3 -1 -1 -1", () -> x.player(0, 0) + " " + Checks.row(-1, 1, k -> x.oracle(0, k)));
        SharedLink y = Checks.net("net 1 60 200 100;player a lowest 30 1 1 2;");
        Checks.due("the last of 30", "1 -1 -1 -1 -1", () -> y.oracle(0, 29) + " " + y.oracle(0, 30) + " " + y.oracle(0, 31) + " "
                + y.oracle(0, MOST) + " " + y.oracle(0, LEAST));
    }

    private static void oracleQuit() {
        Checks.sentence("Promise 15 (oracle)", "NONE if there are not so many segments left, k is negative, or it has quit.");
        SharedLink x = tight(40);
        Checks.due("before", 3, () -> x.oracle(0, 0));
        x.quit(0);
        Checks.due("it has quit", "-1 -1 -1 -1", () -> Checks.row(-1, 2, k -> x.oracle(0, k)));
    }

    private static void oracleNobody() {
        Checks.sentence("Promise 15 (oracle)", "Throws IndexOutOfBoundsException if there is no such player");
        SharedLink x = two();
        SharedLink none = new SharedLink();
        for (int k : new int[] {0, -1, 99}) {
            nobody("oracle", p -> x.oracle(p, k), p -> none.oracle(p, k));
        }
    }

    // ---- promise 16

    private static void regretGreater() {
        Checks.sentence("Promise 16 (regret)", "is greater than the one that it would have by its rule");
        int[][] due = {{40, 9}, {39, 7}, {20, 5}, {19, 3}, {10, 3}, {9, 0}, {0, 0}};
        for (int[] row : due) {
            Checks.due("at the rate " + row[0], row[1], () -> tight(row[0]).regret(0));
        }
        Checks.due("of what is left", 3, () -> stalledThrice(40).regret(0));
        Checks.due("both alike", 0, () -> stalledThrice(10).regret(0));
        Checks.due("two ticks are left", 1, () -> late(1998).regret(0));
        Checks.due("one tick is left", 0, () -> late(1999).regret(0));
        Checks.due("none is left", 0, () -> late(2000).regret(0));
    }

    private static void regretNegative() {
        Checks.sentence("Promise 16 (regret)", "it is negative if the rule gives more");
        SharedLink x = Checks.net(GREEDY);
        Checks.due("the rule gives 10, the oracle 7", "10 -3", () -> x.forecast(0, 3) + " " + x.regret(0));
    }

    private static void regretQuit() {
        Checks.sentence("Promise 16 (regret)", "0 if it has quit.");
        SharedLink x = tight(40);
        Checks.due("before", 9, () -> x.regret(0));
        x.quit(0);
        Checks.due("it has quit", 0, () -> x.regret(0));
        SharedLink y = tight(40);
        y.run(3);
        Checks.due("it is done", "3 0", () -> y.player(0, 0) + " " + y.regret(0));
    }

    private static void regretNobody() {
        Checks.sentence("Promise 16 (regret)", "Throws IndexOutOfBoundsException if there is no such player");
        nobody("regret", two()::regret, new SharedLink()::regret);
    }

    // ---- promise 17

    private static SharedLink ofSize(int size) {
        return Checks.net("net 1 1 1 10;link 1 1;player a lowest 3 1 " + size + ";");
    }

    private static void leastRateOfMultiples() {
        Checks.sentence("Promise 17 (leastRate)", "Returns the least such rate of the multiples of 100 from 0 to 9900");
        int[][] due = {{1, 100}, {99, 100}, {100, 100}, {101, 200}, {200, 200}, {201, 300}, {9800, 9800}, {9801, 9900}, {9900, 9900}};
        for (int[] row : due) {
            Checks.due("segments of " + row[0], row[1], () -> ofSize(row[0]).leastRate());
        }
        Checks.due("without players", 0, () -> new SharedLink().leastRate());
        SharedLink x = ran("net 3 1 9 10;link 1 10;player a lowest 1 1 10;", 1);
        Checks.due("all is loaded, and only played", "1 2 0", () -> x.player(0, 0) + " " + x.player(0, 1) + " " + x.leastRate());
    }

    private static void leastRateNone() {
        Checks.sentence("Promise 17 (leastRate)", "NONE if there is none.");
        Checks.due("segments of 9901", -1, () -> ofSize(9901).leastRate());
        Checks.due("segments of 9999", -1, () -> ofSize(9999).leastRate());
        Checks.due("it never starts", -1, () -> Checks.net("net 1 60 1 10;player a lowest 2 1 1;").leastRate());
    }

    private static void leastRateQuit() {
        Checks.sentence("Promise 17 (leastRate)", "all players (but those that have quit) are done");
        SharedLink x = Checks.net("net 1 1 1 10;link 1 1;player a lowest 3 1 150;player b lowest 3 1 9999;");
        Checks.due("with b", -1, x::leastRate);
        x.quit(1);
        Checks.due("b has quit", 200, x::leastRate);
        x.quit(0);
        Checks.due("both have quit", 0, x::leastRate);
    }

    private static void leastRateStalled() {
        Checks.sentence("Promise 17 (leastRate)", "with as many ticks stalled as now");
        SharedLink x = ran("net 1 1 1 10;link 1 150;player a lowest 2 1 150;", 1);
        x.setRate(0, 10);
        x.run(4);
        Checks.due("stalled with 110 missing", "2 4 110", () -> x.player(0, 0) + " " + x.player(0, 6) + " " + x.player(0, 4));
        Checks.due("200 in the next tick", 200, x::leastRate);
        x.run(1);
        Checks.due("100 in the next tick", "100 100", () -> x.player(0, 4) + " " + x.leastRate());
        x.setRate(0, 9999);
        x.run(1);
        Checks.due("it is done", "3 0", () -> x.player(0, 0) + " " + x.leastRate());
    }

    private static void leastRateDone() {
        Checks.sentence("Promise 17 (leastRate)", "so that no player stalled any more by a forecast");
        Checks.due("two ticks are left", 100, () -> late(1998).leastRate());
        Checks.due("one tick is left", -1, () -> late(1999).leastRate());
        Checks.due("none is left", -1, () -> late(2000).leastRate());
        SharedLink x = Checks.net("net 1 1 1 10;link 1 1;player a lowest 1 1 1;");
        runTo(x, 2000);
        Checks.due("it was done long ago", "3 0", () -> x.player(0, 0) + " " + x.leastRate());
    }

    /** In all orders: no call takes up what another one tried. */
    private static void nothingStays() {
        Checks.sentence("The public face", "what would be; nothing changes");
        SharedLink x = Checks.net("net 1 1 1 100;link 2 39;link 1 35;" + TIGHT + "player b lowest 2 1 1;join b 50;");
        String[] due = {"0 0 0 0 3 52", "2", "3 2 2 -1", "7", "100", "39", "0"};
        for (int first = 0; first < due.length; first++) {
            for (int second = 0; second < due.length; second++) {
                told(x, first);
                int call = second;
                Checks.due("call " + second + " behind call " + first, due[second], () -> told(x, call));
            }
        }
        x.setRate(0, 20);
        x.setRate(1, 20);
        Checks.due("oracle at the rate 20", "3 1 1 -1", () -> told(x, 2));
        Checks.due("steadyQuality at the rate 20", "1", () -> told(x, 1));
        Checks.due("the changes are those two", "2 0", () -> x.size(10) + " " + x.size(7));
    }

    private static String told(SharedLink x, int call) {
        switch (call) {
            case 0: return Checks.row(0, 5, what -> x.forecast(0, what));
            case 1: return Checks.told(() -> x.steadyQuality(0));
            case 2: return Checks.row(0, 3, k -> x.oracle(0, k));
            case 3: return Checks.told(() -> x.regret(0));
            case 4: return Checks.told(x::leastRate);
            case 5: return Checks.told(() -> x.rate(0));
            default: return Checks.told(() -> x.wouldChoose(0));
        }
    }
}
