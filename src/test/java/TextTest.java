/** Promises 1 to 7: a new object, append, parse, errorPosition, size, find, rate. */
public final class TextTest {
    private static final String HEAD = "net 1 1 1 10;";

    public static void main(String[] args) {
        newObject();
        append();
        parseGoodTexts();
        parseTokens();
        parseHead();
        parseLinks();
        parseVary();
        parsePlayers();
        parseJoins();
        parseReplaces();
        parseLength();
        size();
        find();
        rate();
        Checks.end("TextTest");
    }

    private static void sizes(String what, SharedLink x, int... due) {
        for (int i = 0; i < due.length; i++) {
            int which = i;
            Checks.due(what + ": size(" + i + ")", due[i], () -> x.size(which));
        }
    }

    private static void wrong(String text, int code, int position) {
        SharedLink x = new SharedLink();
        Checks.due("parse of \"" + text + "\"", code, () -> Checks.parse(x, text));
        Checks.due("errorPosition of \"" + text + "\"", position, x::errorPosition);
        sizes("after \"" + text + "\"", x, 0, 0, 1, 1, 1, 10, 0, 0, 0, 0, 0);
    }

    private static void good(String text) {
        SharedLink x = Checks.net(text);
        Checks.due("errorPosition of \"" + text + "\"", -1, x::errorPosition);
    }

    private static void newObject() {
        SharedLink x = new SharedLink();
        sizes("new", x, 0, 0, 1, 1, 1, 10, 0, 0, 0, 0, 0);
        Checks.due("new: errorPosition", -1, x::errorPosition);
        Checks.due("new: rate", 100, () -> x.rate(0));
        for (int what = 0; what < 4; what++) {
            int which = what;
            Checks.due("new: account", 0, () -> x.account(which));
        }
        Checks.illegalArgument("new: the buffer is empty", () -> x.parse(1));
        Checks.due("new: find", -1, x::find);
        Checks.due("new: undo", -1, x::undo);
        Checks.illegalState("new: slot 0 is empty", () -> x.restoreSnapshot(0));
        Checks.illegalState("new: slot 1 is empty", () -> x.restoreSnapshot(1));
    }

    private static void append() {
        SharedLink x = new SharedLink();
        for (int length = 20; length <= 600; length += 20) {
            Checks.due("append", length, () -> x.append(0x6e657420, 0x31203120, 0x31203130, 0x3b202020, 0x0a202020));
        }
        Checks.due("append beyond 600", -1, () -> x.append(1, 2, 3, 4, 5));
        Checks.illegalArgument("nothing is appended beyond 600", () -> x.parse(601));
        Checks.due("the first 20 of 600 bytes", 0, () -> x.parse(20));
        Checks.due("append after a parse", 20, () -> x.append(-1, -1, -1, -1, -1));
        Checks.due("bytes 255", 1, () -> x.parse(20));
        Checks.due("append after a parse error", 20, () -> x.append(0x6e657420, 0x31203120, 0x31203130, 0x3b6c696e, 0x6b203120));
        Checks.due("the order of the bytes", 1, () -> x.parse(20));
        Checks.due("the order of the bytes", 20, x::errorPosition);
    }

    private static void parseGoodTexts() {
        good(HEAD);
        good(" \n" + HEAD + "\n ");
        good("net\n1\n1\n1\n10\n;\n");
        good("net1 1 1 10;link1 0;");
        good("net 20 60 200 100;");
        good("net 0001 0001 0001 0010;");
        good(HEAD + "link 1 0;link 200 9999;");
        good(HEAD + "vary 50;");
        good(HEAD + "vary 200 50 50 200;");
        good(HEAD + "player abcdefgh lowest 1 1 1;player link buffer 30 9 9999;player rate rate 2 2 1 2 3 4;player mix mix 1 1 9998 9999;");
        good(HEAD + "player b mix 1 1 1;join b 0;player c mix 1 1 1;join c 999;");
        good(HEAD + "link 1 1;link 1 1;link 1 1;link 1 1;link 1 1;link 1 1;link 1 1;link 1 1;");
    }

    private static void parseTokens() {
        wrong("", 1, 0);
        wrong("  ", 1, 2);
        wrong("net", 1, 3);
        wrong("net  ", 1, 5);
        wrong("nets", 1, 0);
        wrong("ne", 1, 0);
        wrong("Net 1 1 1 10;", 1, 0);
        wrong(";", 1, 0);
        wrong("1", 1, 0);
        wrong("net\t1 1 1 10;", 1, 3);
        wrong("net 00001 1 1 10;", 1, 4);
        wrong("net -1 1 1 10;", 1, 4);
        wrong("net 1 1 1 10", 1, 12);
        wrong("net 1 1 1 10\n\n", 1, 14);
        wrong("net 1 1 1 10 1;", 1, 13);
        wrong(HEAD + ";", 1, 13);
        wrong(HEAD + "5", 1, 13);
        wrong(HEAD + "links 1 1;", 1, 13);
        wrong(HEAD + "net 1 1 1 10;", 1, 13);
        wrong(HEAD + "abcdefghi", 1, 13);
        wrong(HEAD + " \u00e9", 1, 14);
        wrong(HEAD + "\u0000", 1, 13);
        wrong(HEAD + "link 1 1", 1, 21);
        wrong(HEAD + "link 1 1 1;", 1, 22);
        wrong(HEAD + "link 1 12345;", 1, 20);
        wrong(HEAD + "link 1;", 1, 19);
        wrong(HEAD + "link 1 1;@", 1, 22);
    }

    private static void parseHead() {
        wrong("net 0 1 1 10;", 3, 4);
        wrong("net 21 1 1 10;", 3, 4);
        wrong("net 1 0 1 10;", 3, 6);
        wrong("net 1 61 1 10;", 3, 6);
        wrong("net 1 1 0 10;", 3, 8);
        wrong("net 1 1 201 10;", 3, 8);
        wrong("net 1 1 1 9;", 3, 10);
        wrong("net 1 1 1 101;", 3, 10);
        wrong("net 0 0 0 0;", 3, 4);
        wrong("net x 1 1 10;", 1, 4);
    }

    private static void parseLinks() {
        wrong(HEAD + "link 0 1;", 3, 18);
        wrong(HEAD + "link 201 1;", 3, 18);
        wrong(HEAD + "link x", 1, 18);
        String eight = HEAD + "link 1 1;link 1 1;link 1 1;link 1 1;link 1 1;link 1 1;link 1 1;link 1 1;";
        wrong(eight + "link 0 1;", 5, 85);
        wrong(eight + "link", 5, 85);
        wrong(eight + "linkk", 1, 85);
    }

    private static void parseVary() {
        wrong(HEAD + "vary;", 1, 17);
        wrong(HEAD + "vary", 1, 17);
        wrong(HEAD + "vary 49;", 3, 18);
        wrong(HEAD + "vary 201;", 3, 18);
        wrong(HEAD + "vary 50 49;", 3, 21);
        wrong(HEAD + "vary 50 x;", 1, 21);
        wrong(HEAD + "vary 50 50 50 50 50;", 5, 30);
        wrong(HEAD + "vary 50 50 50 50 49;", 3, 30);
        wrong(HEAD + "vary 50 50 50 50 00050;", 1, 30);
        wrong(HEAD + "vary 50;vary", 2, 21);
        wrong(HEAD + "vary 50;vary 49;", 2, 21);
        wrong(HEAD + "vary 50;link 1 1;vary 50;", 2, 30);
    }

    private static void parsePlayers() {
        String p = HEAD + "player ";
        wrong(p, 1, 20);
        wrong(p + "5", 1, 20);
        wrong(p + "abcdefghi lowest 1 1 1;", 1, 20);
        wrong(p + "a best", 1, 22);
        wrong(p + "a 1", 1, 22);
        wrong(p + "a lowest 0 1 1;", 3, 29);
        wrong(p + "a lowest 31 1 1;", 3, 29);
        wrong(p + "a lowest 1 0 1;", 3, 31);
        wrong(p + "a lowest 1 10 1;", 3, 31);
        wrong(p + "a lowest 1 1 0;", 3, 33);
        wrong(p + "a lowest 1 1;", 1, 32);
        wrong(p + "a lowest 1 1 5 5;", 6, 35);
        wrong(p + "a lowest 1 1 5 4;", 6, 35);
        wrong(p + "a lowest 1 1 5 0;", 3, 35);
        wrong(p + "a lowest 1 1 5 12345;", 1, 35);
        wrong(p + "a lowest 1 1 5 x;", 1, 35);
        wrong(p + "a lowest 1 1 1 2 3 4 5;", 5, 41);
        wrong(p + "a lowest 1 1 1 2 3 4 4;", 5, 41);
        wrong(p + "a lowest 1 1 1 2 3 4 0;", 3, 41);
        wrong(p + "a lowest 1 1 1;player a", 2, 42);
        wrong(p + "a lowest 1 1 1;player b lowest 1 1 1;player b", 2, 64);
        String four = p + "a mix 1 1 1;player b mix 1 1 1;player c mix 1 1 1;player d mix 1 1 1;";
        wrong(four + "player a", 5, four.length());
        wrong(four + "player", 5, four.length());
        wrong(four + "players", 1, four.length());
    }

    private static void parseJoins() {
        String one = HEAD + "player a mix 1 1 1;";
        wrong(HEAD + "join a 1;", 4, 18);
        wrong(HEAD + "join a 1;player a mix 1 1 1;", 4, 18);
        wrong(one + "join aa 1;", 4, 37);
        wrong(one + "join 1;", 1, 37);
        wrong(one + "join ;", 1, 37);
        wrong(one + "join abcdefghi;", 1, 37);
        wrong(one + "join a 1000;", 3, 39);
        wrong(one + "join a x;", 1, 39);
        wrong(one + "join a 0;join a 0;", 2, 46);
        wrong(one + "player b mix 1 1 1;join b 0;join a 0;join b", 2, 74);
    }

    private static void parseReplaces() {
        SharedLink x = Checks.net("net 2 2 9 50;link 3 7;vary 50 60 70;player a mix 2 3 4 5;join a 8;");
        sizes("first net", x, 1, 1, 2, 2, 9, 50, 3, 0);
        x.run(10);
        x.saveSnapshot(0);
        x.saveSnapshot(1);
        Checks.due("a parse error", 3, () -> Checks.parse(x, "net 5 5 5 50;link 9 9;player b mix 1 1 1 2 3;join b 1000;"));
        Checks.due("its position", 52, x::errorPosition);
        sizes("after a parse error", x, 1, 1, 2, 2, 9, 50, 3, 10, 0, 0, 1);
        Checks.due("the name stays after a parse error", 0, () -> Checks.find(x, "a"));
        Checks.due("the slots stay after a parse error", 10, () -> x.restoreSnapshot(1));
        x.run(1);
        Checks.due("a second net", 0, () -> Checks.parse(x, HEAD));
        sizes("after a second net", x, 0, 0, 1, 1, 1, 10, 0, 0, 0, 0, 0);
        Checks.due("the sums are new", 0, () -> x.account(0) + x.account(1));
        Checks.due("undo after a parse", -1, x::undo);
        Checks.illegalState("slot 0 after a parse", () -> x.restoreSnapshot(0));
        Checks.illegalState("slot 1 after a parse", () -> x.restoreSnapshot(1));
        Checks.outOfBounds("the players are gone", () -> x.player(0, 0));
        Checks.due("a third net", 0, () -> Checks.parse(x, "net 1 1 1 10;player q lowest 1 1 9;"));
        Checks.due("nothing is left of the first vary", 9, () -> x.sizeOf(0, 0, 0));
        Checks.due("nothing is left of the first join", 0, () -> x.player(0, 16));
        Checks.illegalArgument("nothing is left of the first sizes", () -> x.sizeOf(0, 0, 1));
        Checks.due("nothing is left of the first link", 100, () -> x.rate(0));
        twoNetsAlike();
    }

    private static void twoNetsAlike() {
        String text = "net 2 1 8 100;link 1 25;link 2 10;vary 120;player zz buffer 9 1 10 20 40;player y rate 3 2 15 20;";
        SharedLink x = Checks.net(text);
        x.run(13);
        x.quit(0);
        Checks.due("the same net again", 0, () -> Checks.parse(x, text));
        sizes("again", x, 2, 2, 2, 1, 8, 100, 1, 0, 0, 0, 0);
        SharedLink fresh = Checks.net(text);
        for (int ticks = 0; ticks < 10; ticks++) {
            for (int p = 0; p < 2; p++) {
                for (int what = 0; what <= 16; what++) {
                    int player = p;
                    int which = what;
                    Checks.due("as in a new object", fresh.player(p, what), () -> x.player(player, which));
                }
            }
            int tick = ticks;
            Checks.due("the rate as in a new object", fresh.rate(tick), () -> x.rate(tick));
            Checks.due("time", fresh.run(3), () -> x.run(3));
        }
        Checks.due("find zz", 0, () -> Checks.find(x, "zz"));
    }

    private static void parseLength() {
        SharedLink x = new SharedLink();
        Checks.put(x, "net 5 1 1 10;zzz");
        Checks.illegalArgument("a length of -1", () -> x.parse(-1));
        Checks.illegalArgument("a length of 21", () -> x.parse(21));
        Checks.illegalArgument("the greatest length", () -> x.parse(Integer.MAX_VALUE));
        Checks.illegalArgument("the least length", () -> x.parse(Integer.MIN_VALUE));
        Checks.due("errorPosition after exceptions", -1, x::errorPosition);
        Checks.due("the first bytes alone", 0, () -> x.parse(13));
        Checks.due("length", 5, () -> x.size(2));
        Checks.illegalArgument("the whole buffer is empty after a success", () -> x.parse(1));
        Checks.due("an empty text", 1, () -> x.parse(0));
        Checks.due("its position", 0, x::errorPosition);
        Checks.put(x, HEAD + "zz;");
        Checks.due("an error", 1, () -> x.parse(16));
        Checks.illegalArgument("the whole buffer is empty after an error", () -> x.parse(1));
        Checks.due("errorPosition stays after an exception", 13, x::errorPosition);
        x.find();
        x.run(1);
        Checks.due("errorPosition stays after other calls", 13, x::errorPosition);
        Checks.due("a success", 0, () -> Checks.parse(x, HEAD));
        Checks.due("errorPosition after a success", -1, x::errorPosition);
        String spaces = " ".repeat(586);
        Checks.due("600 bytes", 0, () -> Checks.parse(x, spaces + "\n" + HEAD));
    }

    private static void size() {
        SharedLink x = Checks.net("net 2 3 9 50;link 1 10;link 2 0;vary 50 60 70;"
                + "player a mix 2 3 40 50;player b mix 1 1 10;player c lowest 1 1 1;join c 1;");
        sizes("at 0", x, 3, 2, 2, 3, 9, 50, 3, 0, 0, 0, 0);
        x.run(1);
        sizes("at 1", x, 3, 2, 2, 3, 9, 50, 3, 1, 2, 0, 1);
        x.run(2);
        sizes("at 3", x, 3, 2, 2, 3, 9, 50, 3, 3, 3, 0, 2);
        x.quit(0);
        sizes("a has quit", x, 3, 2, 2, 3, 9, 50, 3, 3, 2, 0, 3);
        x.run(1);
        sizes("at 4", x, 3, 2, 2, 3, 9, 50, 3, 4, 0, 0, 4);
        x.run(1);
        sizes("at 5", x, 3, 2, 2, 3, 9, 50, 3, 5, 0, 2, 5);
        Checks.illegalArgument("size(-1)", () -> x.size(-1));
        Checks.illegalArgument("size(11)", () -> x.size(11));
        Checks.illegalArgument("size of the least int", () -> x.size(Integer.MIN_VALUE));
    }

    private static void find() {
        SharedLink x = Checks.net(HEAD + "player ann mix 1 1 1;player abcdefgh mix 1 1 1;player a mix 1 1 1;player link mix 1 1 1;");
        Checks.due("find ann", 0, () -> Checks.find(x, "ann"));
        Checks.illegalArgument("the buffer is empty after find", () -> x.parse(1));
        Checks.due("find abcdefgh", 1, () -> Checks.find(x, "abcdefgh"));
        Checks.due("find a", 2, () -> Checks.find(x, "a"));
        Checks.due("find link", 3, () -> Checks.find(x, "link"));
        Checks.due("spaces behind it", 2, () -> Checks.find(x, "a" + " ".repeat(599)));
        Checks.due("find an", -1, () -> Checks.find(x, "an"));
        Checks.due("find anna", -1, () -> Checks.find(x, "anna"));
        Checks.due("an empty buffer", -1, x::find);
        Checks.due("spaces alone", -1, () -> Checks.find(x, "    "));
        Checks.due("a space before it", -1, () -> Checks.find(x, " ann"));
        Checks.due("a line feed before it", -1, () -> Checks.find(x, "\nann"));
        Checks.due("a line feed behind it", -1, () -> Checks.find(x, "ann\n"));
        Checks.due("a semicolon behind it", -1, () -> Checks.find(x, "ann;"));
        Checks.due("a digit behind it", -1, () -> Checks.find(x, "ann1"));
        Checks.due("a word behind it", -1, () -> Checks.find(x, "ann a"));
        Checks.due("a byte behind the spaces", -1, () -> Checks.find(x, "ann" + " ".repeat(36) + "x"));
        Checks.due("a name that is too long", -1, () -> Checks.find(x, "abcdefghi"));
        Checks.due("a long run that ends like a name", -1, () -> Checks.find(x, "zzabcdefgh"));
        Checks.due("a capital", -1, () -> Checks.find(x, "Ann"));
        Checks.illegalArgument("the buffer is empty after a find without result", () -> x.parse(1));
        Checks.due("a parse error", 1, () -> Checks.parse(x, "x"));
        Checks.due("find after a parse error", 0, () -> Checks.find(x, "ann"));
        Checks.due("find changes no errorPosition", 0, x::errorPosition);
    }

    private static void rate() {
        SharedLink x = Checks.net(HEAD + "link 2 7;link 1 0;link 3 9999;");
        int[] due = {7, 7, 0, 9999, 9999, 9999};
        for (int tick = 0; tick < 20; tick++) {
            int at = tick;
            Checks.due("rate(" + tick + ")", due[tick % 6], () -> x.rate(at));
        }
        Checks.due("rate of the greatest int", due[Integer.MAX_VALUE % 6], () -> x.rate(Integer.MAX_VALUE));
        Checks.illegalArgument("rate(-1)", () -> x.rate(-1));
        Checks.illegalArgument("rate of the least int", () -> x.rate(Integer.MIN_VALUE));
        x.setRate(1, 5);
        Checks.due("rate after setRate", 5, () -> x.rate(8));
        x.run(4);
        Checks.due("rate is told by the tick, not from now on", 7, () -> x.rate(0));
        SharedLink none = Checks.net(HEAD);
        Checks.due("rate without pieces", 100, () -> none.rate(Integer.MAX_VALUE));
    }
}
