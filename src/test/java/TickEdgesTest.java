/** SEGMENTS, PLAYERS with the rules, A TICK and A FORECAST: each sentence that names a boundary case has a test of its own. */
public final class TickEdgesTest {
    public static void main(String[] args) {
        divisions();
        numbers();
        segmentLasts();
        segmentAtLeastOne();
        percentsAgain();
        withoutVary();
        joinedAtLeast();
        withoutJoin();
        oneAfterTheOther();
        asksWithBuffer();
        loadsNoneElse();
        hasNotLoadedAll();
        choosesWhenItAsks();
        lowest();
        bufferRule();
        bufferRuleMost();
        rateRule();
        rateRuleNone();
        measuredTicks();
        measuredAtFirst();
        mix();
        asksInATick();
        sharesNothingLeft();
        sharesAtMostTheNeed();
        sharesSingleBytes();
        sharesAmongThoseInNeed();
        comesAsAWhole();
        growsByLength();
        joinedOnly();
        startReached();
        loadedAll();
        neitherPlayedNorStalled();
        stallBegins();
        stalledUntilStart();
        oneTickEach();
        done();
        timeGoesOn();
        forecastEnds();
        forecastAtMost();
        forecastOnACopy();
        Checks.end("TickEdgesTest");
    }

    /** Properties of a player: those that the numbers in what tell. */
    private static void told(String when, SharedLink x, int player, String due, int... what) {
        Checks.due(when + ": player " + player, due, () -> Checks.row(0, what.length - 1, i -> x.player(player, what[i])));
    }

    private static void askedIn(String when, SharedLink x, int player, String due) {
        Checks.due(when + ": asked in", due, () -> Checks.row(0, due.split(" ").length - 1, k -> x.loaded(player, k, 2)));
    }

    private static SharedLink ran(String text, int ticks) {
        SharedLink x = Checks.net(text);
        x.run(ticks);
        return x;
    }

    private static void divisions() {
        Checks.sentence("Terms", "all divisions truncate");
        SharedLink x = Checks.net("net 1 60 10 100;vary 199;link 1 8;player a buffer 30 1 3 4;player b lowest 30 1 9;player c lowest 30 1 9;");
        Checks.due("3 * 199 / 100 and 4 * 199 / 100", "5 7", () -> x.sizeOf(0, 0, 0) + " " + x.sizeOf(0, 0, 1));
        Checks.due("8 * 1 / 3 are 2, and of the 2 left a and b get one", "3 3 2", () -> Checks.row(0, 2, x::share));
        x.run(2);
        Checks.due("5 bytes in 2 ticks", 2, () -> x.player(0, 11));
        x.setRate(0, 9999);
        x.run(3);
        Checks.due("buffer 4 * 2 / 10", "4 0", () -> x.player(0, 1) + " " + x.wouldChoose(0));
    }

    private static void numbers() {
        Checks.sentence("Terms", "Players, segments, qualities, pieces of the link and ticks are numbered from 0.");
        SharedLink x = ran("net 1 1 1 10;link 1 10;link 1 20;player a lowest 1 1 4 5;player b lowest 1 2 6 7;", 1);
        Checks.due("players", "1 2", () -> Checks.row(0, 1, p -> x.player(p, 13)));
        Checks.due("segments and qualities", "4 5", () -> Checks.row(0, 1, q -> x.sizeOf(0, 0, q)));
        Checks.due("loaded: quality, size, ticks", "0 4 0 0", () -> Checks.row(0, 3, part -> x.loaded(0, 0, part)));
        Checks.due("ticks of the link", "10 20", () -> Checks.row(0, 1, x::rate));
        Checks.due("pieces", "10 20", () -> Checks.row(0, 1, piece -> x.setRate(piece, 0)));
    }

    // ---- SEGMENTS

    private static void segmentLasts() {
        Checks.sentence("SEGMENTS", "A segment lasts length ticks.");
        for (int length : new int[] {1, 2, 19, 20}) {
            SharedLink x = ran("net " + length + " 1 200 100;player a lowest 3 1 1;", 199);
            told("length " + length, x, 0, "3 0 " + 3 * length, 0, 1, 5);
        }
    }

    private static void segmentAtLeastOne() {
        Checks.sentence("SEGMENTS", "its size number q * percent / 100, but at least 1");
        SharedLink x = Checks.net("net 1 1 1 10;vary 50 99 100 200;player a lowest 4 1 1 2 3 9999;");
        int[][] due = {{1, 1, 1, 4999}, {1, 1, 2, 9899}, {1, 2, 3, 9999}, {2, 4, 6, 19998}};
        for (int k = 0; k < 4; k++) {
            for (int q = 0; q < 4; q++) {
                int segment = k;
                int quality = q;
                Checks.due("sizeOf(0, " + k + ", " + q + ")", due[k][q], () -> x.sizeOf(0, segment, quality));
            }
        }
        x.run(1);
        told("a segment of 1 byte", x, 0, "1 1", 2, 10);
        Checks.due("its size", 1, () -> x.loaded(0, 0, 1));
    }

    private static void percentsAgain() {
        Checks.sentence("SEGMENTS", "with the percent number k modulo the number of percents");
        String[] vary = {"vary 50;", "vary 50 60;", "vary 50 60 70;", "vary 50 60 70 80;"};
        for (int percents = 1; percents <= 4; percents++) {
            SharedLink x = Checks.net("net 1 1 1 10;player a lowest 30 1 100;" + vary[percents - 1]);
            for (int k = 0; k < 30; k++) {
                int segment = k;
                Checks.due("segment " + k + " of " + percents, 50 + k % percents * 10, () -> x.sizeOf(0, segment, 0));
            }
        }
    }

    private static void withoutVary() {
        Checks.sentence("SEGMENTS", "(100 without vary)");
        SharedLink x = Checks.net("net 1 1 1 10;player a lowest 30 1 1 9999;");
        Checks.due("the sizes", "1 9999 1 9999", () -> x.sizeOf(0, 0, 0) + " " + x.sizeOf(0, 0, 1) + " " + x.sizeOf(0, 29, 0) + " "
                + x.sizeOf(0, 29, 1));
    }

    // ---- PLAYERS

    private static void joinedAtLeast() {
        Checks.sentence("PLAYERS", "A player has joined if the time is at least its tick of join");
        SharedLink x = ran("net 1 1 9 100;link 1 10;player a lowest 3 1 10;join a 5;", 5);
        told("at 5, before the tick 5", x, 0, "0 0 0 -1 0 0", 0, 1, 2, 3, 5, 10);
        x.run(1);
        told("after the tick 5", x, 0, "1 0 1 -1 1 10", 0, 1, 2, 3, 5, 10);
        askedIn("joined", x, 0, "5 -1");
        SharedLink y = Checks.net("net 1 1 9 100;link 1 10;player a lowest 1 1 10;join a 999;");
        for (int i = 0; i < 4; i++) {
            y.run(200);
        }
        y.run(199);
        told("at 999", y, 0, "0 0", 0, 10);
        y.run(1);
        told("after the tick 999", y, 0, "3 10", 0, 10);
        askedIn("at the last tick of join", y, 0, "999 -1");
    }

    private static void withoutJoin() {
        Checks.sentence("PLAYERS", "(0 without one). At first it is starting.");
        SharedLink x = Checks.net("net 1 1 9 100;player a lowest 1 1 10;player b lowest 1 1 10;join b 0;player c lowest 1 1 10;join c 1;");
        for (int p = 0; p < 3; p++) {
            told("at first", x, p, "0 0 0 -1 0 0 0 0 0 0 0 0", 0, 1, 2, 3, 4, 5, 6, 7, 8, 9, 10, 11);
        }
        Checks.due("ticks of join", "0 0 1", () -> Checks.row(0, 2, p -> x.player(p, 16)));
        x.run(1);
        Checks.due("a and b have loaded", "1 1 0", () -> Checks.row(0, 2, p -> x.player(p, 2)));
        x.run(1);
        Checks.due("and c", "1 1 1", () -> Checks.row(0, 2, p -> x.player(p, 2)));
    }

    private static void oneAfterTheOther() {
        Checks.sentence("PLAYERS", "It loads its segments one after the other.");
        SharedLink x = ran("net 1 1 9 100;link 1 10;player a lowest 3 1 25;", 3);
        told("the rest of a tick is for no other segment", x, 0, "1 -1 25", 2, 3, 10);
        Checks.due("it is not used", "25 5", () -> x.account(0) + " " + x.account(1));
        x.run(6);
        askedIn("with 25 of 10", x, 0, "0 3 6 -1");
        Checks.due("came in", "2 5 8 -1", () -> Checks.row(0, 3, k -> x.loaded(0, k, 3)));
        SharedLink y = ran("net 1 60 200 100;player a lowest 30 1 1;", 29);
        told("one in a tick", y, 0, "29 29", 1, 2);
    }

    /** A segment of 3 ticks comes in the tick 0; the buffer is 2, 1, 0 at the times 1, 2, 3. */
    private static void asksWithBuffer() {
        Checks.sentence("PLAYERS", "either its buffer is 0, or its buffer plus length is at most full");
        int[] due = {3, 3, 3, 2, 1, 1};
        for (int full = 1; full <= 6; full++) {
            SharedLink x = ran("net 3 1 " + full + " 100;player a lowest 2 1 10;", 10);
            askedIn("full " + full, x, 0, "0 " + due[full - 1] + " -1");
        }
        SharedLink y = ran("net 20 60 200 100;player a lowest 11 1 10;", 13);
        // 20, 40, then it plays: 59, 78, 97, 116, 135, 154, 173 at the times 3 to 9; 192 at 10, 180 at 22
        told("length 20, full 200", y, 0, "189 10", 1, 2);
        y.run(9);
        told("at 22", y, 0, "180 10", 1, 2);
        y.run(1);
        told("at 23", y, 0, "199 11", 1, 2);
    }

    private static void loadsNoneElse() {
        Checks.sentence("PLAYERS", "It can ask for its next segment if it has joined, loads none");
        SharedLink x = ran("net 1 1 9 100;link 1 0;player a lowest 3 1 10 20;", 4);
        told("it loads the first", x, 0, "0 0 10", 2, 3, 4);
        x.setRate(0, 9999);
        x.run(1);
        askedIn("once", x, 0, "0 -1");
        Checks.due("came in", "4 -1", () -> Checks.row(0, 1, k -> x.loaded(0, k, 3)));
    }

    private static void hasNotLoadedAll() {
        Checks.sentence("PLAYERS", "has not loaded all");
        for (int segments : new int[] {1, 30}) {
            SharedLink x = ran("net 1 1 1 100;player a lowest " + segments + " 1 10;", segments);
            told("all " + segments, x, 0, segments + " -1 0 " + 10 * segments, 2, 3, 4, 10);
            x.run(9);
            told("and no more", x, 0, segments + " -1 0 " + 10 * segments, 2, 3, 4, 10);
            Checks.due("nobody loads", 0, () -> x.size(8));
        }
    }

    private static void choosesWhenItAsks() {
        Checks.sentence("PLAYERS", "It chooses the quality when it asks, by its rule");
        SharedLink x = ran("net 1 60 10 100;link 1 9999;player a buffer 30 1 1 9998;", 9);
        x.setRate(0, 0);
        x.run(1);
        told("asked with buffer 9", x, 0, "9 1 9998", 1, 3, 4);
        x.setRule(0, 0);
        told("the rule comes too late", x, 0, "1 9998", 3, 4);
        x.setRate(0, 9999);
        x.run(1);
        Checks.due("its quality and size", "1 9998", () -> x.loaded(0, 9, 0) + " " + x.loaded(0, 9, 1));
        SharedLink y = ran("net 1 60 10 100;link 1 9999;player a buffer 30 1 1 9998;", 9);
        y.setRule(0, 0);
        y.run(1);
        Checks.due("the rule comes in time", 0, () -> y.loaded(0, 9, 0));
    }

    private static void lowest() {
        Checks.sentence("PLAYERS", "lowest: 0.");
        SharedLink x = ran("net 1 60 10 100;link 1 9999;player a lowest 30 1 10 11 12 13;", 10);
        Checks.due("with a full buffer", "10 0", () -> x.player(0, 1) + " " + x.wouldChoose(0));
        Checks.due("always", "0 0 0 0 0 0 0 0 0 0", () -> Checks.row(0, 9, k -> x.loaded(0, k, 0)));
    }

    /** The buffer is t at the time t. */
    private static void bufferRule() {
        Checks.sentence("PLAYERS", "buffer: buffer * number of qualities / full");
        SharedLink x = Checks.net("net 1 60 10 100;link 1 9999;player a buffer 30 1 1 2 3 4;");
        int[] due = {0, 0, 0, 1, 1, 2, 2, 2, 3, 3};
        for (int quality : due) {
            Checks.due("buffer " + x.size(7) + " * 4 / 10", quality, () -> x.wouldChoose(0));
            x.run(1);
        }
        Checks.due("what it chose", "0 0 0 1 1 2 2 2 3 3", () -> Checks.row(0, 9, k -> x.loaded(0, k, 0)));
        SharedLink y = Checks.net("net 1 60 9 100;link 1 9999;player a buffer 30 1 1 2 3;");
        for (int quality : new int[] {0, 0, 0, 1, 1, 1, 2, 2, 2}) {
            Checks.due("buffer " + y.size(7) + " * 3 / 9", quality, () -> y.wouldChoose(0));
            y.run(1);
        }
    }

    private static void bufferRuleMost() {
        Checks.sentence("PLAYERS", "but at most the greatest quality");
        SharedLink x = ran("net 1 60 10 100;link 1 9999;player a buffer 30 1 1 2 3 4;", 10);
        Checks.due("a full buffer", "10 3", () -> x.player(0, 1) + " " + x.wouldChoose(0));
        SharedLink y = ran("net 20 60 1 100;player a buffer 30 1 1 2 3 4;", 1);
        Checks.due("more than full", "20 3", () -> y.player(0, 1) + " " + y.wouldChoose(0));
        SharedLink z = ran("net 20 60 1 100;player a buffer 30 1 1;", 1);
        Checks.due("a single quality", "20 0", () -> z.player(0, 1) + " " + z.wouldChoose(0));
    }

    /** The measured rate is 100 at the time 1; segment 1 has the sizes 50, 100, 100, 101. */
    private static void rateRule() {
        Checks.sentence("PLAYERS", "the greatest quality with which size of the next segment * 100 is at most its measured rate * length * safety");
        String rest = ";link 1 100;vary 100 50;player r rate 3 1 100 200 201 202;";
        String[] heads = {"net 1 60 200 100", "net 1 60 200 99", "net 10 60 200 10", "net 10 60 200 11", "net 2 60 200 50", "net 2 60 200 49",
            "net 20 60 200 100"};
        int[] due = {2, 0, 2, 3, 2, 0, 3};
        for (int i = 0; i < heads.length; i++) {
            SharedLink x = ran(heads[i] + rest, 1);
            int quality = due[i];
            Checks.due(heads[i], "100 " + quality, () -> x.player(0, 11) + " " + x.wouldChoose(0));
            x.setRate(0, 9999);
            x.run(2);
            Checks.due(heads[i] + ": chosen", quality, () -> x.loaded(0, 1, 0));
        }
    }

    private static void rateRuleNone() {
        Checks.sentence("PLAYERS", "0 if there is none.");
        SharedLink x = ran("net 1 60 200 100;link 1 10;player r rate 3 1 100 200;", 10);
        Checks.due("100 bytes at a rate of 10", "10 0", () -> x.player(0, 11) + " " + x.wouldChoose(0));
        x.setRate(0, 9999);
        x.run(1);
        Checks.due("chosen", "0 100", () -> x.loaded(0, 1, 0) + " " + x.loaded(0, 1, 1));
    }

    private static void measuredTicks() {
        Checks.sentence("PLAYERS", "divided by the ticks that this took, from the one in which it asked to the one in which it came, both counted");
        String rest = "player r rate 9 1 ";
        told("7 bytes of 7", ran("net 1 1 9 100;link 1 7;" + rest + "7;", 1), 0, "7", 11);
        told("7 bytes of 6", ran("net 1 1 9 100;link 1 6;" + rest + "7;", 2), 0, "3", 11);
        told("7 bytes of 3", ran("net 1 1 9 100;link 1 3;" + rest + "7;", 3), 0, "2", 11);
        told("6 bytes of 3", ran("net 1 1 9 100;link 1 3;" + rest + "6;", 2), 0, "3", 11);
        told("1 byte of 9999", ran("net 1 1 9 100;link 1 9999;" + rest + "1;", 1), 0, "1", 11);
        told("2 bytes in three ticks", ran("net 1 1 9 100;link 2 0;link 1 9;" + rest + "2;", 3), 0, "1 0", 2, 11);
        Checks.sentence("PLAYERS", "The measured rate is the size of the segment that it loaded last");
        SharedLink x = ran("net 1 1 9 100;link 1 10;player r rate 9 1 40;", 4);
        told("the first", x, 0, "1 10", 2, 11);
        x.run(3);
        told("while it loads the second", x, 0, "1 10", 2, 11);
        x.setRate(0, 9999);
        x.run(1);
        told("the second as slow", x, 0, "2 10", 2, 11);
        x.run(1);
        told("the third", x, 0, "3 40", 2, 11);
    }

    private static void measuredAtFirst() {
        Checks.sentence("PLAYERS", "0 at first.");
        SharedLink x = ran("net 1 1 9 100;link 1 9;player r rate 9 1 10 11;", 1);
        told("before a segment has come", x, 0, "9 0", 10, 11);
        Checks.due("it would choose", 0, () -> x.wouldChoose(0));
        x.run(1);
        told("then", x, 0, "1 5", 2, 11);
    }

    /** buffer 2, 4, 6, 8 at the times 1 to 4, measured 10, 19, 20. */
    private static void mix() {
        Checks.sentence("PLAYERS", "mix: the lesser one of what buffer and rate choose.");
        SharedLink x = ran("net 2 60 8 100;link 1 9999;player m mix 30 1 10 19 20 21;", 1);
        rules("buffer less", x, "0 1 2 1");
        x.run(1);
        rules("buffer less", x, "0 2 3 2");
        x.run(1);
        rules("both alike", x, "0 3 3 3");
        x.setRate(0, 3);
        x.run(7);
        rules("rate less", x, "0 3 0 0");
        Checks.due("what it chose", "0 1 2 3", () -> Checks.row(0, 3, k -> x.loaded(0, k, 0)));
    }

    private static void rules(String when, SharedLink x, String due) {
        Checks.due(when, due, () -> Checks.row(0, 3, rule -> {
            x.setRule(0, rule);
            int quality = x.wouldChoose(0);
            x.undo();
            return quality;
        }));
    }

    // ---- A TICK

    private static void asksInATick() {
        Checks.sentence("A TICK", "Each player, in ascending order, asks for a segment if it can.");
        SharedLink x = ran("net 1 1 1 100;link 1 0;player a lowest 2 1 10;player b lowest 2 1 10;join b 1;player c lowest 2 1 10;", 1);
        Checks.due("a and c have asked", "0 -1 0", () -> Checks.row(0, 2, p -> x.player(p, 3)));
        Checks.due("the missing bytes", "10 0 10", () -> Checks.row(0, 2, p -> x.player(p, 4)));
        x.run(1);
        Checks.due("and b", "0 0 0", () -> Checks.row(0, 2, p -> x.player(p, 3)));
    }

    private static void shares(String text, String due) {
        int last = due.split(" ").length - 1;
        SharedLink x = Checks.net(text);
        Checks.due("shares of " + text, due, () -> Checks.row(0, last, x::share));
        x.run(1);
        Checks.due("bytes of " + text, due, () -> Checks.row(0, last, p -> x.player(p, 10)));
        int through = 0;
        for (String part : due.split(" ")) {
            through += Integer.parseInt(part);
        }
        String sums = through + " " + (x.rate(0) - through);
        Checks.due("sums of " + text, sums, () -> x.account(0) + " " + x.account(1));
    }

    private static String three(int rate) {
        return "net 1 1 1 10;link 1 " + rate + ";player a lowest 1 1 50;player b lowest 1 1 50;player c lowest 1 1 50;";
    }

    private static void sharesNothingLeft() {
        Checks.sentence("A TICK", "Again and again, until nothing is left or no player that loads needs more");
        shares(three(0), "0 0 0");
        shares(three(3), "1 1 1");
        shares(three(149), "50 50 49");
        shares(three(150), "50 50 50");
        shares(three(151), "50 50 50");
        shares(three(9999), "50 50 50");
    }

    private static void sharesAtMostTheNeed() {
        Checks.sentence("A TICK", "each of these gets left * weight / sum, but at most what it needs");
        String two = "player a lowest 1 9 50;player b lowest 1 1 50;";
        shares("net 1 1 1 10;link 1 10;" + two, "9 1");
        shares("net 1 1 1 10;link 1 19;" + two, "18 1");
        shares("net 1 1 1 10;link 1 20;" + two, "18 2");
        shares("net 1 1 1 10;link 1 50;" + two, "45 5");
        shares("net 1 1 1 10;link 1 55;" + two, "50 5");
        shares("net 1 1 1 10;link 1 56;" + two, "50 6");
        shares("net 1 1 1 10;link 1 100;" + two, "50 50");
        shares("net 1 1 1 10;link 1 101;" + two, "50 50");
        shares("net 1 1 1 10;link 1 9999;player a lowest 1 9 9999;player b lowest 1 9 9999;player c lowest 1 9 9999;"
                + "player d lowest 1 9 9999;", "2500 2500 2500 2499");
    }

    private static void sharesSingleBytes() {
        Checks.sentence("A TICK", "if that would be 0 for all of them, they get one byte each instead, in ascending order, as long as there are bytes left");
        shares(three(1), "1 0 0");
        shares(three(2), "1 1 0");
        shares(three(4), "2 1 1");
        shares(three(5), "2 2 1");
        shares(three(6), "2 2 2");
        String uneven = "player a lowest 1 1 50;player b lowest 1 9 50;";
        shares("net 1 1 1 10;link 1 1;" + uneven, "1 0");
        // 2 * 9 / 10 is 1, so it is not 0 for all; the byte that is left then goes to a
        shares("net 1 1 1 10;link 1 2;" + uneven, "1 1");
        shares("net 1 1 1 10;link 1 9;" + uneven, "1 8");
        shares("net 1 1 1 10;link 1 10;" + uneven, "1 9");
        shares("net 1 1 1 10;link 1 11;" + uneven, "2 9");
    }

    private static void sharesAmongThoseInNeed() {
        Checks.sentence("A TICK", "the sum of the weights of the players that still need bytes");
        shares("net 1 1 1 10;link 1 4;player a lowest 1 1 1;player b lowest 1 1 99;player c lowest 1 1 99;", "1 2 1");
        shares("net 1 1 1 10;link 1 40;player a lowest 1 9 1;player b lowest 1 1 99;", "1 39");
        shares("net 1 1 1 10;link 1 2;player a lowest 1 1 99;player b lowest 1 1 1;", "1 1");
        // of 30: 1 of 22, 2, 5; of the 22 left without a: 7, 14; and the last one
        shares("net 1 1 1 10;link 1 30;player a lowest 1 9 1;player b lowest 1 1 99;player c lowest 1 2 99;", "1 10 19");
        shares("net 1 1 1 10;link 1 40;player a lowest 1 9 99;join a 1;player b lowest 1 1 99;", "0 40");
        SharedLink x = ran("net 1 1 1 10;link 1 0;player a lowest 1 9 99;player b lowest 1 1 99;", 1);
        x.quit(0);
        x.setRate(0, 40);
        x.run(1);
        Checks.due("one that has quit", "0 40", () -> Checks.row(0, 1, p -> x.player(p, 10)));
    }

    private static void comesAsAWhole() {
        Checks.sentence("A TICK", "Each player, in ascending order, whose segment has come as a whole puts it into its buffer");
        SharedLink x = ran("net 5 60 60 100;link 1 9;player a lowest 2 1 10;", 1);
        told("a byte is missing", x, 0, "0 0 0 1", 1, 2, 3, 4);
        Checks.due("came", -1, () -> x.loaded(0, 0, 3));
        x.run(1);
        told("it has come", x, 0, "5 1 -1 0", 1, 2, 3, 4);
        Checks.due("came in", 1, () -> x.loaded(0, 0, 3));
        SharedLink y = ran("net 5 60 60 100;link 1 10;player a lowest 2 1 10;", 1);
        told("in one tick", y, 0, "5 1 -1 0", 1, 2, 3, 4);
        Checks.due("came in", 0, () -> y.loaded(0, 0, 3));
    }

    private static void growsByLength() {
        Checks.sentence("A TICK", "which grows by length");
        for (int length : new int[] {1, 20}) {
            SharedLink x = Checks.net("net " + length + " 60 200 100;player a lowest 9 1 10;");
            x.run(1);
            told("length " + length, x, 0, "" + length, 1);
            x.run(1);
            told("length " + length, x, 0, "" + 2 * length, 1);
        }
    }

    private static void joinedOnly() {
        Checks.sentence("A TICK", "4. Each player that has joined, in ascending order");
        SharedLink x = ran("net 1 1 1 100;link 1 0;player a lowest 2 1 10;join a 3;", 3);
        told("not joined", x, 0, "0 -1 0 0 0", 0, 3, 5, 6, 7);
        x.run(1);
        told("starting is not stalled", x, 0, "0 0 0 0 0", 0, 3, 5, 6, 7);
        x.run(9);
        told("however long", x, 0, "0 0 0 0 0", 0, 3, 5, 6, 7);
    }

    private static void startReached() {
        Checks.sentence("A TICK", "if it is starting or stalled, and its buffer is at least start");
        told("buffer 2, start 1", ran("net 2 1 9 100;player a lowest 9 1 10;", 1), 0, "1 1 1", 0, 1, 5);
        told("buffer 2, start 2", ran("net 2 2 9 100;player a lowest 9 1 10;", 1), 0, "1 1 1", 0, 1, 5);
        told("buffer 2, start 3", ran("net 2 3 9 100;player a lowest 9 1 10;", 1), 0, "0 2 0", 0, 1, 5);
        told("buffer 4, start 3", ran("net 2 3 9 100;player a lowest 9 1 10;", 2), 0, "1 3 1", 0, 1, 5);
        told("buffer 59, start 60", ran("net 1 60 200 100;player a lowest 30 1 10;", 29), 0, "0 29 0", 0, 1, 5);
        told("buffer 60, start 60", ran("net 20 60 200 100;player a lowest 30 1 10;", 3), 0, "1 59 1", 0, 1, 5);
        told("buffer 40, start 60", ran("net 20 60 200 100;player a lowest 30 1 10;", 2), 0, "0 40 0", 0, 1, 5);
    }

    private static void loadedAll() {
        Checks.sentence("A TICK", "or it has loaded all its segments, it is playing from now on");
        SharedLink x = ran("net 2 60 9 100;link 1 10;player a lowest 2 1 20;", 3);
        told("one is missing", x, 0, "0 2 1 0", 0, 1, 2, 5);
        x.run(1);
        told("all have come", x, 0, "1 3 2 1", 0, 1, 2, 5);
        told("a single one", ran("net 2 60 9 100;player a lowest 1 1 10;", 1), 0, "1 1 1 1", 0, 1, 2, 5);
    }

    /** A segment of one tick takes three ticks to come: in the tick 2 it is played, in 3 and 4 nothing is. */
    private static void neitherPlayedNorStalled() {
        Checks.sentence("A TICK", "(so no tick is both played and stalled)");
        SharedLink x = Checks.net("net 1 1 1 100;link 1 1;player a lowest 3 1 3;");
        String[] due = {"0 0 0 0", "0 0 0 0", "1 1 0 0", "2 1 1 1", "2 1 2 1", "1 2 2 1", "2 2 3 2", "2 2 4 2", "3 3 4 2", "3 3 4 2"};
        for (String row : due) {
            x.run(1);
            told("at " + x.size(7), x, 0, row, 0, 5, 6, 7);
        }
        Checks.due("ticks stalled of all", 4, () -> x.account(2));
    }

    private static void stallBegins() {
        Checks.sentence("A TICK", "otherwise, if it has not loaded all, it is stalled, and a stall begins");
        SharedLink x = ran("net 2 1 9 100;link 1 10;player a lowest 3 1 10;", 1);
        x.setRate(0, 0);
        x.run(1);
        told("the buffer shrinks to 0", x, 0, "1 0 2 0 0", 0, 1, 5, 6, 7);
        x.run(1);
        told("a stall begins", x, 0, "2 0 2 1 1", 0, 1, 5, 6, 7);
        x.run(5);
        told("one stall", x, 0, "2 0 2 6 1", 0, 1, 5, 6, 7);
        SharedLink y = ran("net 2 1 9 100;link 1 10;player a lowest 1 1 10;", 2);
        told("all is loaded: no stall", y, 0, "3 0 2 0 0", 0, 1, 5, 6, 7);
        y.run(5);
        told("none later on", y, 0, "3 0 2 0 0", 0, 1, 5, 6, 7);
    }

    /** Two segments of one tick start it; at a rate of 5 every second tick brings one. */
    private static void stalledUntilStart() {
        Checks.sentence("A TICK", "it is playing from now on. If it is playing: if its buffer is not 0, the buffer shrinks by 1, and one tick is played");
        SharedLink x = ran("net 1 2 5 100;link 1 10;player a lowest 6 1 10;", 2);
        told("start is reached", x, 0, "1 1 1 0 0", 0, 1, 5, 6, 7);
        x.setRate(0, 5);
        x.run(2);
        told("playing below start", x, 0, "1 0 3 0 0", 0, 1, 5, 6, 7);
        x.run(1);
        told("stalled", x, 0, "2 0 3 1 1", 0, 1, 5, 6, 7);
        x.run(1);
        told("stalled with a buffer below start", x, 0, "2 1 3 2 1", 0, 1, 5, 6, 7);
        x.run(1);
        told("still", x, 0, "2 1 3 3 1", 0, 1, 5, 6, 7);
        x.run(1);
        told("start is reached again", x, 0, "1 1 4 3 1", 0, 1, 5, 6, 7);
    }

    private static void oneTickEach() {
        Checks.sentence("A TICK", "If it is stalled then (also if it just became so), one tick is stalled.");
        SharedLink x = ran("net 1 1 1 100;link 1 10;player a lowest 3 1 10;", 1);
        x.setRate(0, 0);
        for (int ticks = 1; ticks <= 4; ticks++) {
            x.run(1);
            told("stalled for " + ticks, x, 0, "2 " + ticks + " 1", 0, 6, 7);
        }
        x.setRate(0, 10);
        x.run(1);
        told("no more", x, 0, "1 4 1", 0, 6, 7);
    }

    private static void done() {
        Checks.sentence("A TICK", "If it has loaded all and its buffer is 0 then, it is done.");
        SharedLink x = ran("net 3 1 9 100;player a lowest 1 1 10;", 2);
        told("one tick is left", x, 0, "1 1 2", 0, 1, 5);
        x.run(1);
        told("done", x, 0, "3 0 3", 0, 1, 5);
        told("in its first tick", ran("net 1 1 9 100;player a lowest 1 1 10;", 1), 0, "3 0 1", 0, 1, 5);
        told("an empty buffer is not all", ran("net 1 1 1 100;player a lowest 2 1 10;", 1), 0, "1 0 1", 0, 1, 5);
    }

    private static void timeGoesOn() {
        Checks.sentence("A TICK", "5. The time becomes t + 1.");
        SharedLink x = Checks.net("net 1 1 9 100;player a lowest 3 1 10;");
        Checks.due("at first", 0, () -> x.size(7));
        Checks.due("a tick", 1, () -> x.run(1));
        Checks.due("the time", 1, () -> x.size(7));
        x.run(1);
        askedIn("the tick that t is told by", x, 0, "0 1 -1");
        Checks.due("came in", "0 1 -1", () -> Checks.row(0, 2, k -> x.loaded(0, k, 3)));
    }

    // ---- A FORECAST

    private static void forecastEnds() {
        Checks.sentence("A FORECAST", "A FORECAST lets ticks pass until all players are done or have quit");
        SharedLink x = Checks.net("net 1 1 1 100;player a lowest 3 1 10;player b lowest 5 1 10;join b 9;player c lowest 1 1 10;join c 99;");
        Checks.due("all are done", 100, () -> x.forecast(0, 5));
        x.quit(2);
        Checks.due("c has quit", 14, () -> x.forecast(2, 5));
        x.quit(1);
        Checks.due("b has quit", 3, () -> x.forecast(1, 5));
        x.run(2);
        Checks.due("a tick is left", 3, () -> x.forecast(0, 5));
        x.run(1);
        Checks.due("no tick is left", 3, () -> x.forecast(0, 5));
        x.run(1);
        Checks.due("a tick later", 4, () -> x.forecast(0, 5));
        Checks.due("what has been loaded", "3 0 0", () -> Checks.row(0, 2, p -> x.forecast(p, 4)));
    }

    /** Nothing comes before the rate is set; then one segment of one tick in a tick. */
    private static void forecastAtMost() {
        Checks.sentence("A FORECAST", "but at most until the time 2000");
        SharedLink x = Checks.net("net 1 1 1 10;link 1 0;player a lowest 3 1 10;");
        Checks.due("nothing ever comes", "0 0 0 0 0 2000", () -> Checks.row(0, 5, what -> x.forecast(0, what)));
        for (int i = 0; i < 10; i++) {
            x.run(i < 9 ? 200 : 197);
        }
        x.setRate(0, 10);
        Checks.due("three ticks are left", "0 0 0 0 3 2000", () -> Checks.row(0, 5, what -> x.forecast(0, what)));
        x.run(1);
        Checks.due("two of three", "0 0 0 0 3 2000", () -> Checks.row(0, 5, what -> x.forecast(0, what)));
        x.undo();
        x.setRate(0, 0);
        x.run(1);
        x.setRate(0, 10);
        Checks.due("two ticks are left", "0 0 0 0 2 2000", () -> Checks.row(0, 5, what -> x.forecast(0, what)));
        x.run(2);
        Checks.due("none is left", "0 0 0 0 2 2000", () -> Checks.row(0, 5, what -> x.forecast(0, what)));
    }

    private static void forecastOnACopy() {
        Checks.sentence("A FORECAST", "on a copy");
        SharedLink x = ran("net 2 2 8 100;link 3 10;link 2 20;player a mix 9 1 30 60;player b rate 9 2 30 31;join b 9;", 5);
        SharedLink y = ran("net 2 2 8 100;link 3 10;link 2 20;player a mix 9 1 30 60;player b rate 9 2 30 31;join b 9;", 5);
        String before = Checks.row(0, 16, what -> x.player(0, what));
        x.forecast(0, 0);
        x.forecast(1, 5);
        Checks.due("the player", before, () -> Checks.row(0, 16, what -> x.player(0, what)));
        Checks.due("time and changes", "5 1", () -> x.size(7) + " " + x.size(10));
        x.run(20);
        y.run(20);
        Checks.due("what comes then", Checks.state(y), () -> Checks.state(x));
    }
}
