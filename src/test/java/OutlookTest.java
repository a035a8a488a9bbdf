/** Promises 11 to 17: wouldChoose, share, forecast, steadyQuality, oracle, regret, leastRate. */
public final class OutlookTest {
    /** Each segment of 2 ticks takes 3 ticks to come: two stalls, done at 10. */
    private static final String STALLING = "net 2 2 4 100;link 1 10;player a lowest 3 1 30;";
    /** In quality 0, 1, 2 a segment of 2 ticks takes 1, 2, 4 ticks to come. */
    private static final String CHOICE = "net 2 2 8 100;link 1 10;player a lowest 4 1 10 20 40;";
    /** The rule stalls and gets 10; the oracle 3, 3, 1, 0, 0, 0. */
    private static final String GREEDY = "net 1 2 2 100;link 1 10;player a buffer 6 1 1 20 40 80;";

    public static void main(String[] args) {
        wouldChoose();
        shareByWeights();
        shareOverRounds();
        shareOfNobody();
        forecast();
        forecastWithoutEnd();
        steadyQuality();
        oracle();
        oracleOnTheWay();
        regret();
        others();
        leastRate();
        justInTime();
        oneAfterTheOther();
        nothingChanges();
        Checks.end("OutlookTest");
    }

    private static void noPlayer(String what, SharedLink x, java.util.function.IntFunction<Object> call) {
        int players = x.size(0);
        for (int player : new int[] {-1, players, Integer.MAX_VALUE, Integer.MIN_VALUE}) {
            Checks.outOfBounds(what + " of player " + player, () -> call.apply(player));
        }
    }

    private static void wouldChoose() {
        SharedLink x = Checks.net("net 2 1 4 100;link 1 10;player a buffer 3 1 5 10 20;join a 2;");
        Checks.due("before it has joined", 0, () -> x.wouldChoose(0));
        x.run(3);
        Checks.due("buffer 1: 1 * 3 / 4", 0, () -> x.wouldChoose(0));
        x.run(1);
        Checks.due("buffer 2: 2 * 3 / 4", 1, () -> x.wouldChoose(0));
        x.run(1);
        Checks.due("buffer 3: 3 * 3 / 4, and all but asked", -1, () -> x.wouldChoose(0));
        SharedLink y = Checks.net("net 2 1 4 100;link 1 10;player a buffer 3 1 15 30;");
        y.run(1);
        Checks.due("while it loads the first", 0, () -> y.wouldChoose(0));
        y.run(1);
        Checks.due("buffer 1", 0, () -> y.wouldChoose(0));
        y.run(2);
        Checks.due("two have come", 2, () -> y.player(0, 2));
        Checks.due("while it cannot ask, buffer 2 as well", 1, () -> {
            SharedLink z = Checks.net("net 2 9 3 100;link 1 10;player a buffer 3 1 10 30;");
            z.run(1);
            return z.wouldChoose(0);
        });
        y.run(1);
        Checks.due("while it loads the last", -1, () -> y.wouldChoose(0));
        y.quit(0);
        Checks.due("it has quit", -1, () -> y.wouldChoose(0));
        SharedLink q = Checks.net(CHOICE);
        q.quit(0);
        Checks.due("it has quit with segments left", -1, () -> q.wouldChoose(0));
        noPlayer("wouldChoose", x, x::wouldChoose);
    }

    private static void shares(String what, SharedLink x, int... due) {
        for (int p = 0; p < due.length; p++) {
            int player = p;
            Checks.due(what + ": share(" + p + ")", due[p], () -> x.share(player));
        }
        int[] before = new int[due.length];
        for (int p = 0; p < due.length; p++) {
            before[p] = x.player(p, 10);
        }
        x.run(1);
        for (int p = 0; p < due.length; p++) {
            int player = p;
            Checks.due(what + ": got by " + p, before[p] + due[p], () -> x.player(player, 10));
        }
        x.undo();
    }

    private static void shareByWeights() {
        SharedLink x = Checks.net("net 2 2 20 50;link 1 10;player a lowest 5 1 30;player b lowest 5 2 30;join b 1;");
        shares("b has not joined", x, 10, 0);
        x.run(2);
        shares("a 3 and b 6, and one byte is left", x, 4, 6);
        x.setWeight(1, 1);
        shares("even weights", x, 5, 5);
        x.setRate(0, 100);
        shares("as much as is needed", x, 16, 24);
        x.quit(1);
        shares("b has quit", x, 16, 0);
        noPlayer("share", x, x::share);
    }

    private static void shareOverRounds() {
        String four = "player a lowest 1 1 100;player b lowest 1 1 3;player c lowest 1 2 40;player d lowest 1 3 1;";
        // 70: of 7 parts a 10, b 3, c 20, d 1; of the 36 left a 12, c 20 of 24; of the 4 left a 4
        shares("70", Checks.net("net 1 1 1 10;link 1 70;" + four), 26, 3, 40, 1);
        // 60: of 7 parts a 8, b 3, c 17, d 1; of the 31 left of 3 parts a 10, c 20; the last byte a
        shares("60", Checks.net("net 1 1 1 10;link 1 60;" + four), 19, 3, 37, 1);
        shares("2", Checks.net("net 1 1 1 10;link 1 2;" + four), 1, 1, 0, 0);
        // 6: of 7 parts a 0, b 0, c 1, d 1 of 2; of the 4 left of 4 parts a 1, b 1, c 2
        shares("6", Checks.net("net 1 1 1 10;link 1 6;" + four), 1, 1, 3, 1);
        shares("0", Checks.net("net 1 1 1 10;link 1 0;" + four), 0, 0, 0, 0);
        shares("9999", Checks.net("net 1 1 1 10;link 1 9999;" + four), 100, 3, 40, 1);
        shares("9 by 9 and 1", Checks.net("net 1 1 1 10;link 1 9;player a lowest 1 1 99;player b lowest 1 9 99;"), 1, 8);
        shares("without pieces", Checks.net("net 1 1 1 10;player a lowest 1 3 900;player b lowest 1 4 900;"), 43, 57);
    }

    private static void shareOfNobody() {
        SharedLink x = Checks.net("net 4 1 4 100;link 1 10;player a lowest 2 1 10;");
        shares("it asks in the next tick", x, 10);
        x.run(1);
        shares("its buffer is too full to ask", x, 0);
        x.run(3);
        shares("its buffer is 0", x, 10);
        x.run(100);
        shares("it is done", x, 0);
    }

    private static void forecasts(String what, SharedLink x, int player, int... due) {
        for (int i = 0; i < due.length; i++) {
            int which = i;
            Checks.due(what + ": forecast(" + player + ", " + i + ")", due[i], () -> x.forecast(player, which));
        }
    }

    private static void forecast() {
        SharedLink x = Checks.net(STALLING);
        forecasts("at 0", x, 0, 2, 2, 0, 0, 3, 10);
        x.run(8);
        forecasts("at 8", x, 0, 2, 2, 0, 0, 3, 10);
        x.run(30);
        forecasts("done long ago", x, 0, 2, 2, 0, 0, 3, 38);
        SharedLink y = Checks.net("net 2 1 8 100;link 1 1000;player a buffer 6 1 10 20 30 40;player b lowest 1 1 1;join b 50;");
        forecasts("until all are done", y, 0, 0, 0, 2, 6, 6, 52);
        forecasts("the other one", y, 1, 0, 0, 0, 0, 1, 52);
        y.quit(1);
        forecasts("until all are done or have quit", y, 0, 0, 0, 2, 6, 6, 12);
        y.quit(0);
        forecasts("all have quit", y, 0, 0, 0, 0, 0, 0, 0);
        Checks.illegalArgument("forecast(0, 6)", () -> x.forecast(0, 6));
        Checks.illegalArgument("forecast(0, -1)", () -> x.forecast(0, -1));
        noPlayer("forecast", x, p -> x.forecast(p, 9));
    }

    private static void forecastWithoutEnd() {
        SharedLink x = Checks.net("net 1 1 1 10;link 1 1;link 3 0;player a lowest 2 1 1 5;player b lowest 30 1 9999;");
        forecasts("b never loads anything", x, 1, 0, 0, 0, 0, 0, 2000);
        SharedLink y = Checks.net("net 1 1 1 10;link 1 5;link 200 0;link 200 0;link 200 0;link 200 0;link 200 0;link 200 0;"
                + "link 200 0;player a lowest 30 1 5;");
        forecasts("one stall that lasts, and one more", y, 0, 1400 + 598, 2, 0, 0, 2, 2000);
        y.run(200);
        forecasts("as far at 200", y, 0, 1998, 2, 0, 0, 2, 2000);
        for (int i = 0; i < 9; i++) {
            y.run(200);
        }
        forecasts("at 2000", y, 0, 1998, 2, 0, 0, 2, 2000);
        Checks.due("steadyQuality at 2000", -1, () -> y.steadyQuality(0));
        Checks.due("oracle at 2000", 0, () -> y.oracle(0, 0));
        Checks.due("regret at 2000", 0, () -> y.regret(0));
        Checks.due("leastRate at 2000", -1, y::leastRate);
    }

    private static void steadyQuality() {
        SharedLink x = Checks.net(CHOICE);
        Checks.due("quality 1 takes as long as it lasts", 1, () -> x.steadyQuality(0));
        x.setRate(0, 40);
        Checks.due("at 40", 2, () -> x.steadyQuality(0));
        x.setRate(0, 0);
        Checks.due("it is never done", -1, () -> x.steadyQuality(0));
        SharedLink y = Checks.net(STALLING);
        Checks.due("none", -1, () -> y.steadyQuality(0));
        y.run(5);
        Checks.due("the stall of now goes on for no tick, but the next one comes", -1, () -> y.steadyQuality(0));
        y.setRate(0, 40);
        Checks.due("what it has stalled does not count", "0 1", () -> y.steadyQuality(0) + " " + y.player(0, 6));
        y.run(2);
        Checks.due("it has asked for all", -1, () -> y.steadyQuality(0));
        y.run(9);
        Checks.due("it is done", -1, () -> y.steadyQuality(0));
        SharedLink z = Checks.net("net 2 2 8 100;link 1 10;player a lowest 4 1 10 20 40;");
        z.quit(0);
        Checks.due("it has quit", -1, () -> z.steadyQuality(0));
        SharedLink loading = Checks.net("net 2 1 8 100;link 1 10;player a lowest 2 1 15 20 9000;");
        loading.run(1);
        Checks.due("for the segments for which it has not asked", 1, () -> loading.steadyQuality(0));
        SharedLink never = Checks.net("net 1 1 1 10;link 1 1;player a lowest 1 1 1999 2000 2001;");
        Checks.due("of a single segment", 1, () -> never.steadyQuality(0));
        noPlayer("steadyQuality", x, x::steadyQuality);
    }

    private static void oracles(String what, SharedLink x, int player, int... due) {
        for (int k = 0; k < due.length; k++) {
            int which = k;
            Checks.due(what + ": oracle(" + player + ", " + k + ")", due[k], () -> x.oracle(player, which));
        }
    }

    private static void oracle() {
        SharedLink x = Checks.net(CHOICE);
        oracles("choice", x, 0, 2, 1, 1, 1, -1);
        Checks.due("k -1", -1, () -> x.oracle(0, -1));
        Checks.due("the greatest k", -1, () -> x.oracle(0, Integer.MAX_VALUE));
        Checks.due("the least k", -1, () -> x.oracle(0, Integer.MIN_VALUE));
        oracles("greedy", Checks.net(GREEDY), 0, 3, 3, 1, 0, 0, 0, -1);
        oracles("0 if there is none", Checks.net("net 2 2 4 100;link 1 10;player a lowest 3 1 30 31;"), 0, 0, 0, 0, -1);
        x.quit(0);
        oracles("it has quit", x, 0, -1, -1);
        noPlayer("oracle", x, p -> x.oracle(p, -1));
    }

    private static void oracleOnTheWay() {
        SharedLink x = Checks.net(CHOICE);
        x.run(1);
        oracles("buffer 1", x, 0, 1, 1, 1, -1);
        x.run(1);
        oracles("buffer 2", x, 0, 1, 1, -1);
        x.run(2);
        Checks.due("all have come", 4, () -> x.player(0, 2));
        oracles("nothing is left", x, 0, -1);
        SharedLink y = Checks.net("net 2 2 8 100;link 1 10;player a lowest 4 1 15 20 45;");
        y.run(1);
        Checks.due("it loads the first", 0, () -> y.player(0, 3));
        oracles("from the second on", y, 0, 1, 1, 1, -1);
        // With 45 bytes at the second the player stalls; then it may not stall more than it did.
        SharedLink z = Checks.net("net 2 2 8 100;link 1 10;player a lowest 4 1 30 40;");
        z.run(5);
        Checks.due("stalled", "2 1", () -> z.player(0, 0) + " " + z.player(0, 6));
        z.setRate(0, 20);
        oracles("what it has stalled does not count", z, 0, 1, 1, -1);
    }

    private static void regret() {
        Checks.due("choice", 5, () -> Checks.net(CHOICE).regret(0));
        Checks.due("greedy", -3, () -> Checks.net(GREEDY).regret(0));
        SharedLink x = Checks.net("net 4 4 12 80;link 5 100;player ann lowest 3 1 100 300;");
        Checks.due("of quality 1 thrice", 3, () -> x.regret(0));
        x.run(1);
        Checks.due("of quality 1 twice", 2, () -> x.regret(0));
        x.run(1);
        Checks.due("of quality 1 once", 1, () -> x.regret(0));
        x.quit(0);
        Checks.due("it has quit", 0, () -> x.regret(0));
        SharedLink y = Checks.net(CHOICE);
        y.run(100);
        Checks.due("it is done", 0, () -> y.regret(0));
        SharedLink z = Checks.net("net 1 1 1 10;link 1 0;player a lowest 3 1 1 2;");
        Checks.due("nothing ever comes", 0, () -> z.regret(0));
        noPlayer("regret", y, y::regret);
    }

    /** The others play by their rules, and take their part of the link. */
    private static void others() {
        String alone = "net 1 2 3 100;link 1 20;player a lowest 4 1 10 20;";
        Checks.due("alone", 1, () -> Checks.net(alone).steadyQuality(0));
        SharedLink x = Checks.net(alone + "player b lowest 30 1 10 20;");
        Checks.due("with another one", 0, () -> x.steadyQuality(0));
        oracles("with another one", x, 0, 1, 1, 1, 0, -1);
        x.quit(1);
        Checks.due("the other one has quit", 1, () -> x.steadyQuality(0));
        SharedLink y = Checks.net(alone + "player b lowest 4 1 9999;");
        Checks.due("the other one need not be done", 0, () -> y.steadyQuality(0));
    }

    private static void leastRate() {
        Checks.due("without players", 0, () -> Checks.net("net 1 1 1 10;").leastRate());
        Checks.due("100", 100, () -> Checks.net("net 1 1 1 10;player a lowest 3 1 100;").leastRate());
        Checks.due("101", 200, () -> Checks.net("net 1 1 1 10;player a lowest 3 1 101;").leastRate());
        Checks.due("9900", 9900, () -> Checks.net("net 1 1 1 10;player a lowest 3 1 9900;").leastRate());
        Checks.due("9901", -1, () -> Checks.net("net 1 1 1 10;player a lowest 3 1 9901;").leastRate());
        Checks.due("a start that is never reached", -1, () -> Checks.net("net 1 60 1 10;player a lowest 2 1 1;").leastRate());
        Checks.due("stalling", 100, () -> Checks.net(STALLING).leastRate());
        SharedLink x = Checks.net("net 1 1 1 10;link 1 1;player a lowest 3 1 101;player b lowest 3 1 99;player c lowest 9 9 9000;");
        Checks.due("9200 for all", 9200, x::leastRate);
        x.quit(2);
        Checks.due("c has quit", 200, x::leastRate);
        x.run(190);
        Checks.due("in the midst of stalls", "2 200", () -> x.player(0, 0) + " " + x.leastRate());
        x.quit(0);
        Checks.due("b alone", 100, x::leastRate);
        x.quit(1);
        Checks.due("all have quit", 0, x::leastRate);
        SharedLink y = Checks.net("net 2 1 2 100;link 1 100;player a lowest 3 1 100;");
        y.run(6);
        Checks.due("all are done", 0, y::leastRate);
    }

    /** A forecast ends at 2000: what is done then is done, what would be done in the next tick is not. */
    private static void justInTime() {
        SharedLink x = Checks.net("net 20 1 200 100;link 1 0;player a lowest 30 1 1 2;");
        for (int i = 0; i < 7; i++) {
            x.run(200);
        }
        x.setRate(0, 9999);
        forecasts("just in time", x, 0, 0, 0, 0, 0, 30, 2000);
        Checks.due("steady at 1400", 1, () -> x.steadyQuality(0));
        oracles("at 1400", x, 0, 1, 1, 1);
        Checks.due("regret at 1400 (it has asked for the first already)", 29, () -> x.regret(0));
        Checks.due("leastRate at 1400", 100, x::leastRate);
        x.undo();
        x.run(1);
        x.setRate(0, 9999);
        forecasts("a tick too late", x, 0, 0, 0, 0, 0, 30, 2000);
        Checks.due("steady at 1401", -1, () -> x.steadyQuality(0));
        oracles("at 1401", x, 0, 0, 0, 0);
        Checks.due("regret at 1401", 0, () -> x.regret(0));
        Checks.due("leastRate at 1401", -1, x::leastRate);
    }

    /** No call leaves anything behind that another one takes up. */
    private static void oneAfterTheOther() {
        SharedLink x = Checks.net(CHOICE);
        x.setRate(0, 40);
        oracles("at 40", x, 0, 2, 2, 2, 2, -1);
        x.setRate(0, 10);
        oracles("at 10", x, 0, 2, 1, 1, 1, -1);
        Checks.due("steady", 1, () -> x.steadyQuality(0));
        oracles("at 10 again", x, 0, 2, 1, 1, 1, -1);
        Checks.due("leastRate", 100, x::leastRate);
        forecasts("by its rule and the rates of the link", x, 0, 0, 0, 0, 0, 4, 8);
        Checks.due("share at 10", 10, () -> x.share(0));
        Checks.due("it chooses by its rule", 0, () -> x.wouldChoose(0));
        x.setRate(0, 3);
        Checks.due("leastRate does not ask for the rate of the link", 100, x::leastRate);
        Checks.due("share at 3", 3, () -> x.share(0));
    }

    private static void nothingChanges() {
        SharedLink x = Checks.net("net 2 2 8 100;link 1 7;link 2 20;vary 90 120;player a mix 9 1 10 20 40;player b rate 9 2 10 20 40;");
        x.run(9);
        int changes = x.size(10);
        String before = Checks.state(x);
        for (int p = 0; p < 2; p++) {
            x.wouldChoose(p);
            x.share(p);
            x.forecast(p, 3);
            x.steadyQuality(p);
            x.oracle(p, 2);
            x.regret(p);
        }
        x.leastRate();
        Checks.due("nothing changes", before, () -> Checks.state(x));
        Checks.due("no change to undo more", changes, () -> x.size(10));
        x.run(20);
        SharedLink y = Checks.net("net 2 2 8 100;link 1 7;link 2 20;vary 90 120;player a mix 9 1 10 20 40;player b rate 9 2 10 20 40;");
        y.run(9);
        y.run(20);
        Checks.due("nothing changes later on either", Checks.state(y), () -> Checks.state(x));
    }
}
