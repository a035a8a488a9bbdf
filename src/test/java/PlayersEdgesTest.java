/** Promises 8 to 10: each sentence that names a boundary case has a test of its own, which begins with it. */
public final class PlayersEdgesTest {
    private static final int[] NO_PLAYER_OF_TWO = {-1, 2, 3, 4, Integer.MAX_VALUE, Integer.MIN_VALUE};
    private static final String TWO = "net 2 1 8 100;link 1 15;vary 100 60;player a buffer 6 1 10 30 90;player b lowest 3 9 5;join b 7;";

    public static void main(String[] args) {
        playerNumbers();
        playerWhat();
        playerChecksFirst();
        stateBeforeJoin();
        states();
        qualityWithoutSegment();
        missingWithoutSegment();
        firstSegmentIsNoSwitch();
        secondIsSwitch();
        switches();
        sumOfQualities();
        fixedProperties();
        loadedNone();
        loadedParts();
        loadedPart();
        loadedChecksFirst();
        sizeOfLimits();
        sizeOfChecksFirst();
        Checks.end("PlayersEdgesTest");
    }

    private static SharedLink ran(String text, int ticks) {
        SharedLink x = Checks.net(text);
        x.run(ticks);
        return x;
    }

    private static void playerNumbers() {
        Checks.sentence("Promise 8 (player)", "Throws IndexOutOfBoundsException if there is no such player");
        SharedLink x = ran(TWO, 6);
        for (int player : NO_PLAYER_OF_TWO) {
            Checks.outOfBounds("player(" + player + ", 0)", () -> x.player(player, 0));
        }
        Checks.due("the first and the last", "1 1", () -> x.player(0, 13) + " " + x.player(0, 0));
        Checks.due("the last", "9 0", () -> x.player(1, 13) + " " + x.player(1, 0));
        Checks.outOfBounds("without players", () -> new SharedLink().player(0, 0));
        SharedLink four = Checks.net("net 1 1 1 10;player a mix 1 1 1;player b mix 1 2 1;player c mix 1 3 1;player d mix 1 4 1;");
        Checks.due("the last of four", 4, () -> four.player(3, 13));
        Checks.outOfBounds("no fifth", () -> four.player(4, 13));
    }

    private static void playerWhat() {
        Checks.sentence("Promise 8 (player)", "Throws IllegalArgumentException if what is out of range");
        SharedLink x = ran(TWO, 6);
        for (int what : new int[] {-1, 17, 18, Integer.MAX_VALUE, Integer.MIN_VALUE}) {
            Checks.illegalArgument("player(0, " + what + ")", () -> x.player(0, what));
        }
        // The segments took 1, 1, 1, 2 ticks; of the 30 bytes of the fifth 15 came in the tick 5.
        Checks.due("0 to 16", "1 2 4 1 15 6 0 0 1 1 59 9 1 1 6 3 0", () -> Checks.row(0, 16, what -> x.player(0, what)));
        Checks.due("of b", "0 0 0 -1 0 0 0 0 0 0 0 0 0 9 3 1 7", () -> Checks.row(0, 16, what -> x.player(1, what)));
    }

    private static void playerChecksFirst() {
        Checks.sentence("Promise 8 (player)", "Throws IndexOutOfBoundsException if there is no such player (checked first)");
        SharedLink x = Checks.net(TWO);
        Checks.outOfBounds("player(2, 17)", () -> x.player(2, 17));
        Checks.outOfBounds("player(-1, -1)", () -> x.player(-1, -1));
    }

    private static void stateBeforeJoin() {
        Checks.sentence("Promise 8 (player)", "0 starting (also if it has not joined)");
        SharedLink x = ran("net 1 1 1 10;link 1 0;player a lowest 1 1 5;join a 3;", 3);
        Checks.due("it has not joined", 0, () -> x.player(0, 0));
        x.run(1);
        Checks.due("it has joined and loads", "0 0", () -> x.player(0, 0) + " " + x.player(0, 3));
    }

    private static void states() {
        Checks.sentence("Promise 8 (player)", "1 playing, 2 stalled, 3 done, 4 it has quit");
        SharedLink x = Checks.net("net 1 1 1 10;link 1 5;player a lowest 2 1 5;player b lowest 9 1 99;");
        x.quit(1);
        StringBuilder states = new StringBuilder();
        for (int tick = 0; tick < 4; tick++) {
            states.append(x.player(0, 0));
            x.setRate(0, tick == 1 ? 4 : 5);
            x.run(1);
        }
        Checks.due("the states of a", "0123", () -> states);
        Checks.due("it is done, and b has quit", "3 4", () -> Checks.row(0, 1, p -> x.player(p, 0)));
    }

    private static void qualityWithoutSegment() {
        Checks.sentence("Promise 8 (player)", "3 the quality of the segment that it loads (NONE without one)");
        SharedLink x = Checks.net("net 1 1 1 10;link 1 5;player a lowest 1 1 10;");
        Checks.due("it has not asked", -1, () -> x.player(0, 3));
        x.run(1);
        Checks.due("it loads", 0, () -> x.player(0, 3));
        x.run(1);
        Checks.due("it has come", -1, () -> x.player(0, 3));
    }

    private static void missingWithoutSegment() {
        Checks.sentence("Promise 8 (player)", "4 the bytes of it that are missing (0 without one)");
        SharedLink x = Checks.net("net 1 1 1 10;link 1 9;player a lowest 1 1 10;");
        Checks.due("it has not asked", 0, () -> x.player(0, 4));
        x.run(1);
        Checks.due("it loads", 1, () -> x.player(0, 4));
        x.run(1);
        Checks.due("it has come", 0, () -> x.player(0, 4));
    }

    private static void firstSegmentIsNoSwitch() {
        Checks.sentence("Promise 9 (loaded)", "A switch is a loaded segment whose quality differs from that of the loaded segment before.");
        SharedLink x = Checks.net("net 20 1 1 100;player a buffer 3 1 10 20;");
        Checks.due("none", 0, () -> x.player(0, 8));
        x.run(1);
        Checks.due("the first is none", "1 0", () -> x.player(0, 2) + " " + x.player(0, 8));
        x.run(20);
        Checks.due("one of the same quality is none", "2 0", () -> x.player(0, 2) + " " + x.player(0, 8));
    }

    private static void secondIsSwitch() {
        Checks.sentence("Promise 9 (loaded)", "a loaded segment whose quality differs from that of the loaded segment before");
        SharedLink x = ran("net 4 1 8 100;player a buffer 3 1 10 20 30 40;", 1);
        Checks.due("the first", "0 -1 0", () -> x.loaded(0, 0, 0) + " " + x.loaded(0, 1, 0) + " " + x.player(0, 8));
        x.run(1);
        Checks.due("the second", "0 1 1", () -> x.loaded(0, 0, 0) + " " + x.loaded(0, 1, 0) + " " + x.player(0, 8));
    }

    /** The buffer is t at the time t; with 2 qualities quality 1 from 5 on. */
    private static void switches() {
        Checks.sentence("Promise 8 (player)", "8 switches");
        SharedLink x = ran("net 1 60 10 100;link 1 9999;player a buffer 30 1 10 20;", 5);
        Checks.due("five alike", 0, () -> x.player(0, 8));
        x.setRate(0, 0);
        x.run(1);
        Checks.due("one that loads is none", "1 0", () -> x.player(0, 3) + " " + x.player(0, 8));
        x.setRate(0, 9999);
        x.run(1);
        Checks.due("up", 1, () -> x.player(0, 8));
        x.run(1);
        Checks.due("the same", 1, () -> x.player(0, 8));
        x.setRule(0, 0);
        x.run(1);
        Checks.due("down", 2, () -> x.player(0, 8));
        x.setRule(0, 1);
        x.run(1);
        Checks.due("up again", "3 9", () -> x.player(0, 8) + " " + x.player(0, 2));
    }

    private static void sumOfQualities() {
        Checks.sentence("Promise 8 (player)", "9 the sum of the qualities of the segments that it has loaded");
        SharedLink x = ran("net 1 60 10 100;link 1 9999;player a buffer 30 1 10 20 30 9000;", 9);
        Checks.due("0 0 0 1 1 2 2 2 3", 11, () -> x.player(0, 9));
        x.setRate(0, 100);
        x.run(1);
        Checks.due("one that loads does not count", "3 11", () -> x.player(0, 3) + " " + x.player(0, 9));
    }

    private static void fixedProperties() {
        Checks.sentence("Promise 8 (player)", "12 its rule (0 lowest, 1 buffer, 2 rate, 3 mix), 13 its weight, 14 its segments, 15 its qualities, 16 its tick of join");
        SharedLink x = Checks.net("net 1 1 1 10;player a lowest 1 1 1;player b buffer 30 9 1 2 3 4;player c rate 2 2 1 2;player d mix 3 3 1 2 3;"
                + "join b 999;join c 1;join d 0;");
        String[] due = {"0 1 1 1 0", "1 9 30 4 999", "2 2 2 2 1", "3 3 3 3 0"};
        for (int p = 0; p < 4; p++) {
            int player = p;
            Checks.due("of player " + p, due[p], () -> Checks.row(12, 16, what -> x.player(player, what)));
        }
    }

    private static void loadedNone() {
        Checks.sentence("Promise 9 (loaded)", "NONE if it has not loaded so many, or k is negative.");
        SharedLink x = Checks.net("net 1 60 200 100;player a lowest 30 1 100 200;");
        for (int count = 0; count <= 30; count++) {
            int loaded = count;
            for (int part = 0; part < 4; part++) {
                int which = part;
                Checks.due("segment " + count + " is not loaded", -1, () -> x.loaded(0, loaded, which));
                Checks.due("segment -1", -1, () -> x.loaded(0, -1, which));
                if (count > 0) {
                    int[] due = {0, 100, count - 1, count - 1};
                    Checks.due("the last one is loaded", due[part], () -> x.loaded(0, loaded - 1, which));
                }
            }
            x.run(1);
        }
        for (int k : new int[] {30, 31, Integer.MAX_VALUE, Integer.MIN_VALUE}) {
            Checks.due("loaded(0, " + k + ", 0)", -1, () -> x.loaded(0, k, 0));
        }
        SharedLink y = ran("net 1 60 200 100;link 1 50;player a lowest 30 1 100;", 1);
        Checks.due("it loads the first", -1, () -> y.loaded(0, 0, 0));
        SharedLink z = ran("net 1 60 200 100;player a lowest 30 1 100 200;", 3);
        String none = "-1 ".repeat(30).trim();
        for (int part = 0; part < 4; part++) {
            int which = part;
            Checks.due("none behind the third", none, () -> Checks.row(3, 32, k -> z.loaded(0, k, which)));
        }
        z.run(20);
        z.undo();
        for (int part = 0; part < 4; part++) {
            int which = part;
            Checks.due("none behind the third again", none, () -> Checks.row(3, 32, k -> z.loaded(0, k, which)));
        }
    }

    /** In the tick 0: 10 bytes; 1: 6 bytes; 2: 10 bytes; 3 and 4: 18 bytes. */
    private static void loadedParts() {
        Checks.sentence("Promise 9 (loaded)", "part: 0 its quality, 1 its size, 2 the tick in which it was asked for, 3 the tick in which it came");
        SharedLink x = ran(TWO, 6);
        Checks.due("segment 0", "0 10 0 0", () -> Checks.row(0, 3, part -> x.loaded(0, 0, part)));
        Checks.due("segment 1", "0 6 1 1", () -> Checks.row(0, 3, part -> x.loaded(0, 1, part)));
        Checks.due("segment 2", "0 10 2 2", () -> Checks.row(0, 3, part -> x.loaded(0, 2, part)));
        Checks.due("segment 3", "1 18 3 4", () -> Checks.row(0, 3, part -> x.loaded(0, 3, part)));
        Checks.due("segment 4", "-1 -1 -1 -1", () -> Checks.row(0, 3, part -> x.loaded(0, 4, part)));
    }

    private static void loadedPart() {
        Checks.sentence("Promise 9 (loaded)", "Throws IllegalArgumentException if part is out of range");
        SharedLink x = ran(TWO, 6);
        for (int part : new int[] {-1, 4, Integer.MAX_VALUE, Integer.MIN_VALUE}) {
            for (int k : new int[] {0, 4, -1, 30}) {
                Checks.illegalArgument("loaded(0, " + k + ", " + part + ")", () -> x.loaded(0, k, part));
            }
        }
    }

    private static void loadedChecksFirst() {
        Checks.sentence("Promise 9 (loaded)", "Throws IndexOutOfBoundsException if there is no such player (checked first)");
        SharedLink x = ran(TWO, 6);
        for (int player : NO_PLAYER_OF_TWO) {
            Checks.outOfBounds("loaded(" + player + ", 0, 0)", () -> x.loaded(player, 0, 0));
            Checks.outOfBounds("loaded(" + player + ", 0, 4)", () -> x.loaded(player, 0, 4));
            Checks.outOfBounds("loaded(" + player + ", -1, -1)", () -> x.loaded(player, -1, -1));
        }
        Checks.due("the last player", -1, () -> x.loaded(1, 0, 0));
    }

    private static void sizeOfLimits() {
        Checks.sentence("Promise 10 (sizeOf)", "Throws IllegalArgumentException if segment or quality is out of range");
        SharedLink x = Checks.net("net 1 1 1 10;player a lowest 30 1 1 2 3 4;player b lowest 1 1 9;");
        Checks.due("the least and the greatest", "1 4 1 4", () -> x.sizeOf(0, 0, 0) + " " + x.sizeOf(0, 0, 3) + " " + x.sizeOf(0, 29, 0) + " "
                + x.sizeOf(0, 29, 3));
        int[][] wrong = {{-1, 0}, {30, 0}, {0, -1}, {0, 4}, {-1, -1}, {30, 4}, {-1, 4}, {Integer.MAX_VALUE, 0}, {Integer.MIN_VALUE, 0},
            {0, Integer.MAX_VALUE}, {0, Integer.MIN_VALUE}, {1073741824, 0}, {7, -4}, {0, 5}};
        for (int[] row : wrong) {
            Checks.illegalArgument("sizeOf(0, " + row[0] + ", " + row[1] + ")", () -> x.sizeOf(0, row[0], row[1]));
        }
        Checks.due("of b", 9, () -> x.sizeOf(1, 0, 0));
        Checks.illegalArgument("by the segments of b", () -> x.sizeOf(1, 1, 0));
        Checks.illegalArgument("by the qualities of b", () -> x.sizeOf(1, 0, 1));
        x.quit(1);
        Checks.due("one that has quit", 9, () -> x.sizeOf(1, 0, 0));
    }

    private static void sizeOfChecksFirst() {
        Checks.sentence("Promise 10 (sizeOf)", "Throws IndexOutOfBoundsException if there is no such player (checked first)");
        SharedLink x = Checks.net(TWO);
        for (int player : NO_PLAYER_OF_TWO) {
            Checks.outOfBounds("sizeOf(" + player + ", 0, 0)", () -> x.sizeOf(player, 0, 0));
            Checks.outOfBounds("sizeOf(" + player + ", -1, 9)", () -> x.sizeOf(player, -1, 9));
        }
    }
}
