/** Promises 18 to 21: fairness, meanQuality, isWhole, account. */
public final class SumsTest {
    public static void main(String[] args) {
        fairness();
        meanQuality();
        isWhole();
        account();
        Checks.end("SumsTest");
    }

    private static void fairness() {
        SharedLink x = Checks.net("net 2 2 20 50;link 1 10;player a lowest 5 1 30;player b lowest 5 2 30;join b 1;");
        Checks.due("no byte yet", 1.0, x::fairness);
        x.run(1);
        Checks.due("a alone", 0.5, x::fairness);
        x.run(1);
        Checks.due("14 by 1 and 6 by 2", 17.0 * 17.0 / (2 * 205.0), x::fairness);
        x.setWeight(0, 9);
        Checks.due("by the weights of now", (14.0 / 9.0 + 3.0) * (14.0 / 9.0 + 3.0) / (2 * (14.0 / 9.0 * (14.0 / 9.0) + 9.0)),
                x::fairness);
        x.quit(0);
        Checks.due("one that has quit counts", (14.0 / 9.0 + 3.0) * (14.0 / 9.0 + 3.0) / (2 * (14.0 / 9.0 * (14.0 / 9.0) + 9.0)),
                x::fairness);
        SharedLink y = Checks.net("net 1 1 1 10;link 1 40;player a lowest 9 1 99;player b lowest 9 1 99;player c lowest 9 1 99;"
                + "player d lowest 9 1 99;");
        y.run(1);
        Checks.due("four alike", 1.0, y::fairness);
        Checks.due("without players", 1.0, () -> new SharedLink().fairness());
        SharedLink z = Checks.net("net 1 1 1 10;link 1 3;player a lowest 9 3 99;player b lowest 9 7 99;player c lowest 9 9 99;join c 5;");
        z.run(9);
        double sum = 0.0;
        double squares = 0.0;
        int[] weights = {3, 7, 9};
        for (int p = 0; p < 3; p++) {
            double part = (double) z.player(p, 10) / weights[p];
            sum += part;
            squares += part * part;
        }
        Checks.due("in ascending order", sum * sum / (3 * squares), z::fairness);
    }

    private static void meanQuality() {
        SharedLink x = Checks.net("net 2 1 8 100;link 1 1000;player a buffer 6 1 10 20 30 40;");
        double[] due = {0.0, 0.0, 0.0, 1.0 / 3, 2.0 / 4, 4.0 / 5, 6.0 / 6};
        for (double mean : due) {
            Checks.due("mean", mean, () -> x.meanQuality(0));
            x.run(1);
        }
        Checks.outOfBounds("no player 1", () -> x.meanQuality(1));
        Checks.outOfBounds("no player -1", () -> x.meanQuality(-1));
    }

    private static void isWhole() {
        Checks.due("new", true, () -> new SharedLink().isWhole());
        SharedLink x = Checks.net("net 3 2 9 70;link 3 20;link 2 3;vary 50 133;player a mix 9 1 10 20 40;player b rate 9 2 30;"
                + "player c buffer 5 3 7 9;join c 9;player d lowest 30 9 1;");
        for (int i = 0; i < 60; i++) {
            if (i == 12) {
                x.quit(1);
            }
            if (i == 15) {
                x.undo();
                x.saveSnapshot(0);
                x.setRate(1, 0);
                x.setWeight(2, 9);
            }
            if (i == 50) {
                x.restoreSnapshot(0);
                x.quit(0);
            }
            x.run(1);
            Checks.due("whole", true, x::isWhole);
        }
    }

    private static void accounts(String what, SharedLink x, int... due) {
        for (int i = 0; i < due.length; i++) {
            int which = i;
            Checks.due(what + ": account(" + i + ")", due[i], () -> x.account(which));
        }
    }

    private static void account() {
        SharedLink x = Checks.net("net 2 2 4 100;link 1 10;player a lowest 3 1 30;player b lowest 1 2 9;join b 4;");
        accounts("at 0", x, 0, 0, 0, 0);
        x.run(4);
        accounts("at 4", x, 40, 0, 0, 1);
        x.run(1);
        accounts("at 5", x, 50, 0, 1, 1);
        x.run(1);
        accounts("at 6", x, 60, 0, 2, 2);
        x.run(10);
        accounts("at 16", x, 99, 61, 3, 4);
        x.run(1);
        accounts("when all is done the rate is unused", x, 99, 71, 3, 4);
        x.undo();
        accounts("after undo", x, 99, 61, 3, 4);
        x.setRate(0, 5);
        x.run(2);
        accounts("by the rate of now", x, 99, 71, 3, 4);
        SharedLink y = Checks.net("net 1 1 1 10;");
        y.run(2);
        accounts("without pieces and players", y, 0, 200, 0, 0);
        Checks.illegalArgument("account(-1)", () -> y.account(-1));
        Checks.illegalArgument("account(4)", () -> y.account(4));
        SharedLink z = Checks.net("net 1 1 1 10;link 1 10;player a lowest 9 1 30;");
        z.run(7);
        z.quit(0);
        z.run(1);
        accounts("what has come and what was stalled stays after quit", z, 70, 10, 3, 2);
    }
}
