/** Promises 8 to 10 (player, loaded, sizeOf), and with them what a tick does and what the rules choose. */
public final class PlayersTest {
    public static void main(String[] args) {
        stalls();
        asksWithRoom();
        asksWithoutBuffer();
        startsWithAll();
        bufferRule();
        rateRule();
        mixRule();
        joins();
        properties();
        loaded();
        sizeOf();
        Checks.end("PlayersTest");
    }

    private static void properties(String what, SharedLink x, int player, int... due) {
        for (int i = 0; i < due.length; i++) {
            int which = i;
            Checks.due(what + ": player(" + player + ", " + i + ")", due[i], () -> x.player(player, which));
        }
    }

    private static void parts(SharedLink x, int part, int... due) {
        for (int k = 0; k < due.length; k++) {
            int which = k;
            Checks.due("loaded(0, " + k + ", " + part + ")", due[k], () -> x.loaded(0, which, part));
        }
    }

    /** Each segment of 2 ticks takes 3 ticks to come. */
    private static void stalls() {
        SharedLink x = Checks.net("net 2 2 4 100;link 1 10;player a lowest 3 1 30;");
        // state, buffer, loaded, quality, missing, played, stalled, stalls, switches, sum, got, measured
        properties("at 0", x, 0, 0, 0, 0, -1, 0, 0, 0, 0, 0, 0, 0, 0);
        x.run(1);
        properties("at 1", x, 0, 0, 0, 0, 0, 20, 0, 0, 0, 0, 0, 10, 0);
        x.run(1);
        properties("at 2", x, 0, 0, 0, 0, 0, 10, 0, 0, 0, 0, 0, 20, 0);
        x.run(1);
        properties("at 3", x, 0, 1, 1, 1, -1, 0, 1, 0, 0, 0, 0, 30, 10);
        x.run(1);
        properties("at 4", x, 0, 1, 0, 1, 0, 20, 2, 0, 0, 0, 0, 40, 10);
        x.run(1);
        properties("at 5", x, 0, 2, 0, 1, 0, 10, 2, 1, 1, 0, 0, 50, 10);
        x.run(1);
        properties("at 6", x, 0, 1, 1, 2, -1, 0, 3, 1, 1, 0, 0, 60, 10);
        x.run(2);
        properties("at 8", x, 0, 2, 0, 2, 0, 10, 4, 2, 2, 0, 0, 80, 10);
        x.run(1);
        properties("at 9", x, 0, 1, 1, 3, -1, 0, 5, 2, 2, 0, 0, 90, 10);
        x.run(1);
        properties("at 10", x, 0, 3, 0, 3, -1, 0, 6, 2, 2, 0, 0, 90, 10);
        x.run(50);
        properties("at 60", x, 0, 3, 0, 3, -1, 0, 6, 2, 2, 0, 0, 90, 10);
        parts(x, 2, 0, 3, 6, -1);
        parts(x, 3, 2, 5, 8, -1);
    }

    private static void asksWithRoom() {
        SharedLink x = Checks.net("net 3 1 4 100;link 1 100;player a lowest 3 1 10;");
        x.run(20);
        parts(x, 2, 0, 2, 5);
        Checks.due("no stall", 0, () -> x.player(0, 6));
        SharedLink y = Checks.net("net 3 4 4 100;link 1 100;player a lowest 3 1 10;");
        y.run(200);
        properties("a start that is never reached", y, 0, 0, 3, 1, -1, 0, 0, 0, 0);
    }

    private static void asksWithoutBuffer() {
        SharedLink x = Checks.net("net 5 1 1 100;link 1 100;player a buffer 3 1 10 20 30 40;");
        x.run(1);
        Checks.due("a buffer that is more than full", 4, () -> x.player(0, 1));
        Checks.due("at most the greatest quality", 3, () -> x.wouldChoose(0));
        x.run(19);
        parts(x, 0, 0, 0, 0);
        parts(x, 2, 0, 5, 10);
        Checks.due("done", 3, () -> x.player(0, 0));
        Checks.due("played", 15, () -> x.player(0, 5));
    }

    /** A player that has loaded all plays, and a stalled one too, also below start. */
    private static void startsWithAll() {
        SharedLink x = Checks.net("net 2 60 9 100;link 1 10;player a lowest 2 1 30;");
        x.run(5);
        properties("before the last came", x, 0, 0, 2, 1, 0, 10, 0, 0);
        x.run(1);
        properties("the last came", x, 0, 1, 3, 2, -1, 0, 1, 0);
        SharedLink y = Checks.net("net 1 2 2 100;link 1 5;player a lowest 3 1 5 20;");
        y.run(2);
        properties("started with two", y, 0, 1, 1, 2, -1, 0, 1, 0, 0);
        y.setRate(0, 1);
        y.run(3);
        properties("stalled", y, 0, 2, 0, 2, 0, 2, 2, 2, 1);
        y.setRate(0, 9);
        y.run(1);
        properties("done from stalled at once", y, 0, 3, 0, 3, -1, 0, 3, 2, 1);
    }

    private static void bufferRule() {
        SharedLink x = Checks.net("net 2 1 8 100;link 1 1000;player a buffer 6 1 10 20 30 40;");
        x.run(6);
        parts(x, 0, 0, 0, 1, 1, 2, 2);
        parts(x, 1, 10, 10, 20, 20, 30, 30);
        Checks.due("switches", 2, () -> x.player(0, 8));
        Checks.due("sum of qualities", 6, () -> x.player(0, 9));
        SharedLink y = Checks.net("net 4 1 8 100;link 1 1000;player a buffer 3 1 10 20 30 40;");
        y.run(2);
        parts(y, 0, 0, 1, -1);
        Checks.due("a switch to the second", 1, () -> y.player(0, 8));
    }

    private static void rateRule() {
        SharedLink x = Checks.net("net 4 4 12 100;link 9 100;player r rate 4 1 100 300 400;");
        Checks.due("at first", 0, () -> x.wouldChoose(0));
        x.run(1);
        Checks.due("as much as the measured rate lets through", 2, () -> x.wouldChoose(0));
        SharedLink y = Checks.net("net 4 4 12 99;link 9 100;player r rate 4 1 100 300 400;");
        y.run(1);
        Checks.due("a little less", 1, () -> y.wouldChoose(0));
        SharedLink z = Checks.net("net 4 4 12 100;vary 100 101 150;link 9 100;player r rate 4 1 100 300 400;");
        z.run(1);
        Checks.due("by the size of the next segment", 1, () -> z.wouldChoose(0));
        z.setRate(0, 303);
        z.run(1);
        Checks.due("measured", 303, () -> z.player(0, 11));
        Checks.due("by the percent of segment 2", 2, () -> z.wouldChoose(0));
        SharedLink w = Checks.net("net 1 1 9 100;link 1 3;player r rate 4 1 10 300;");
        w.run(4);
        Checks.due("the measured rate is truncated, and counts the first and the last tick", 2, () -> w.player(0, 11));
        SharedLink v = Checks.net("net 1 1 9 100;link 1 1;player r rate 4 1 10;");
        v.run(10);
        Checks.due("measured from asking to coming", 1, () -> v.player(0, 11));
    }

    private static void mixRule() {
        SharedLink x = Checks.net("net 2 9 9 100;link 1 40;player m mix 9 1 10 20 30 40;");
        x.run(1);
        Checks.due("buffer 2, measured 10: buffer chooses 0, rate 1", "0 10", () -> x.wouldChoose(0) + " " + x.player(0, 11));
        x.setRule(0, 2);
        Checks.due("rate alone", 1, () -> x.wouldChoose(0));
        x.setRule(0, 3);
        x.run(1);
        x.setRate(0, 10);
        x.run(2);
        Checks.due("buffer", 6, () -> x.player(0, 1));
        Checks.due("the rate chooses less", 1, () -> x.wouldChoose(0));
        x.setRule(0, 1);
        Checks.due("buffer alone", 2, () -> x.wouldChoose(0));
    }

    private static void joins() {
        SharedLink x = Checks.net("net 1 1 1 100;link 1 10;player a lowest 2 1 10;join a 3;");
        Checks.due("tick of join", 3, () -> x.player(0, 16));
        x.run(3);
        properties("before", x, 0, 0, 0, 0, -1, 0, 0, 0, 0, 0, 0, 0);
        x.run(1);
        properties("with the tick of join", x, 0, 1, 0, 1, -1, 0, 1, 0, 0, 0, 0, 10);
        Checks.due("asked in 3", 3, () -> x.loaded(0, 0, 2));
    }

    private static void properties() {
        SharedLink x = Checks.net("net 2 2 9 50;player a lowest 5 7 1;player b buffer 30 2 1 2;player c rate 1 9 1 2 3;"
                + "join b 999;player d mix 2 1 1 2 3 4;");
        int[][] due = {{0, 7, 5, 1, 0}, {1, 2, 30, 2, 999}, {2, 9, 1, 3, 0}, {3, 1, 2, 4, 0}};
        for (int p = 0; p < 4; p++) {
            for (int i = 0; i < 5; i++) {
                int player = p;
                int what = 12 + i;
                Checks.due("player(" + p + ", " + what + ")", due[p][i], () -> x.player(player, what));
            }
        }
        x.quit(1);
        Checks.due("it has quit", 4, () -> x.player(1, 0));
        Checks.illegalArgument("player(0, 17)", () -> x.player(0, 17));
        Checks.illegalArgument("player(0, -1)", () -> x.player(0, -1));
        Checks.outOfBounds("player(4, 17)", () -> x.player(4, 17));
        Checks.outOfBounds("player(-1, 0)", () -> x.player(-1, 0));
        Checks.outOfBounds("player of the greatest int", () -> x.player(Integer.MAX_VALUE, -1));
        Checks.outOfBounds("player of the least int", () -> x.player(Integer.MIN_VALUE, 0));
    }

    private static void loaded() {
        SharedLink x = Checks.net("net 2 1 8 100;link 1 15;vary 100 60;player a buffer 6 1 10 30 90;");
        Checks.due("nothing is loaded", -1, () -> x.loaded(0, 0, 0));
        x.run(6);
        // t 0: 10 bytes; 1: 6 bytes; 2: buffer 2 and quality 0, 10 bytes; 3: buffer 3 and quality 1, 18 bytes
        parts(x, 0, 0, 0, 0, 1, -1);
        parts(x, 1, 10, 6, 10, 18, -1);
        parts(x, 2, 0, 1, 2, 3, -1);
        parts(x, 3, 0, 1, 2, 4, -1);
        Checks.due("segment 4 is loading", 1, () -> x.player(0, 3));
        Checks.due("k -1", -1, () -> x.loaded(0, -1, 0));
        Checks.due("the greatest k", -1, () -> x.loaded(0, Integer.MAX_VALUE, 3));
        Checks.due("the least k", -1, () -> x.loaded(0, Integer.MIN_VALUE, 3));
        Checks.illegalArgument("part 4", () -> x.loaded(0, 0, 4));
        Checks.illegalArgument("part -1", () -> x.loaded(0, 0, -1));
        Checks.illegalArgument("part 4 of no segment", () -> x.loaded(0, -1, 4));
        Checks.outOfBounds("no player 1", () -> x.loaded(1, 0, 4));
        Checks.outOfBounds("no player -1", () -> x.loaded(-1, 0, 0));
    }

    private static void sizeOf() {
        SharedLink one = Checks.net("net 1 1 1 10;vary 150;player z lowest 2 9 7 8;");
        Checks.due("one percent", "10 12 10", () -> one.sizeOf(0, 0, 0) + " " + one.sizeOf(0, 1, 1) + " " + one.sizeOf(0, 1, 0));
        SharedLink x = Checks.net("net 1 1 1 10;player v lowest 30 9 1 5 9999;vary 50 200 77;");
        int[][] due = {{1, 2, 4999}, {2, 10, 19998}, {1, 3, 7699}};
        for (int k = 0; k < 30; k++) {
            for (int q = 0; q < 3; q++) {
                int segment = k;
                int quality = q;
                Checks.due("sizeOf(0, " + k + ", " + q + ")", due[k % 3][q], () -> x.sizeOf(0, segment, quality));
            }
        }
        Checks.illegalArgument("segment 30", () -> x.sizeOf(0, 30, 0));
        Checks.illegalArgument("segment -1", () -> x.sizeOf(0, -1, 0));
        Checks.illegalArgument("quality 3", () -> x.sizeOf(0, 0, 3));
        Checks.illegalArgument("quality -1", () -> x.sizeOf(0, 0, -1));
        Checks.illegalArgument("the greatest segment", () -> x.sizeOf(0, Integer.MAX_VALUE, 0));
        Checks.outOfBounds("no player 1", () -> x.sizeOf(1, 30, 0));
        Checks.outOfBounds("no player -1", () -> x.sizeOf(-1, 0, 0));
    }
}
