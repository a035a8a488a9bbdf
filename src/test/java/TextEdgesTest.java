/** TEXT, and promises 1 to 7: each sentence that names a boundary case has a test of its own, which begins with it. */
public final class TextEdgesTest {
    private static final String HEAD = "net 1 1 1 10;";
    private static final String ONE = HEAD + "player a mix 1 1 1;";
    private static final String FOUR = ONE + "player b mix 1 1 1;player c mix 1 1 1;player d mix 1 1 1;";
    private static final int LEAST = Integer.MIN_VALUE;
    private static final int MOST = Integer.MAX_VALUE;

    public static void main(String[] args) {
        textBytes();
        separators();
        wordRuns();
        numberRuns();
        allBytes();
        grammar();
        names();
        ranges();
        growingSizes();
        mostOfEach();
        onceOnly();
        code1();
        code2();
        code3();
        code4();
        code5();
        code6();
        smallestPosition();
        smallestCode();
        positionOfToken();
        positionOfEnd();
        newObject();
        appendOrder();
        appendLength();
        appendBeyond();
        parseFirstBytes();
        parseOutOfRange();
        parseReplaces();
        parseErrorKeeps();
        emptyAfterSuccess();
        errorPosition();
        errorPositionNone();
        sizeOutOfRange();
        sizeOfLoading();
        sizeOfDone();
        sizeOfChanges();
        findName();
        findNone();
        findEmpties();
        rateAgain();
        rateWithoutPieces();
        rateNegative();
        Checks.end("TextEdgesTest");
    }

    /** A parse of the text by a new object, and where it finds the error. */
    private static void read(String text, int code, int position) {
        SharedLink x = new SharedLink();
        String shown = text.trim().replace('\n', '|');
        Checks.due("parse of " + shown, code, () -> Checks.parse(x, text));
        Checks.due("errorPosition of " + shown, position, x::errorPosition);
    }

    private static void good(String text) {
        read(text, 0, -1);
    }

    /** A number between two parts of a text: the least and the most are read, what is beyond is not. */
    private static void range(String before, int least, int most, String after) {
        good(before + least + after);
        good(before + most + after);
        if (least > 0) {
            read(before + (least - 1) + after, 3, before.length());
        } else {
            read(before + "-1" + after, 1, before.length());
        }
        read(before + (most + 1) + after, most < 9999 ? 3 : 1, before.length());
    }

    // ---- TEXT

    private static void textBytes() {
        Checks.sentence("TEXT", "A net is described by a text of at most 600 bytes.");
        String last = "player last mix 1 1 1;";
        String text = HEAD + " ".repeat(600 - HEAD.length() - last.length()) + last;
        SharedLink x = new SharedLink();
        Checks.due("its length", 600, () -> Checks.put(x, text));
        Checks.due("parse of 600 bytes", 0, () -> x.parse(600));
        Checks.due("its last bytes count", 0, () -> Checks.find(x, "last"));
        Checks.due("an error in the last byte", 1, () -> Checks.parse(x, text.substring(0, 599) + "?"));
        Checks.due("its position", 599, x::errorPosition);
        Checks.due("without the last byte", 1, () -> Checks.parse(x, text.substring(0, 599)));
        Checks.due("its end", 599, x::errorPosition);
    }

    private static void separators() {
        Checks.sentence("TEXT", "Spaces (byte 32) and line feeds (byte 10) separate tokens and are otherwise ignored.");
        good("net 1 1 1 10;");
        good("net\n1\n1\n1\n10\n;\n");
        good(" \n\n  net  1\n 1 \n1   10 ; \n");
        good("net1 1 1 10;link1 0;vary50;player a mix1 1 1;join a0;");
        read("n et 1 1 1 10;", 1, 0);
        read("ne\nt 1 1 1 10;", 1, 0);
        read("net 1 1 1 1 0;", 3, 10);
        read("net 1 1 1 1\n0;", 3, 10);
        read("net\t1 1 1 10;", 1, 3);
        read("net\r1 1 1 10;", 1, 3);
        read("net\u000b1 1 1 10;", 1, 3);
    }

    private static void wordRuns() {
        Checks.sentence("TEXT", "a word (a maximal run of letters a to z, 1 to 8 letters)");
        good(HEAD + "player a mix 1 1 1;");
        good(HEAD + "player z mix 1 1 1;");
        good(HEAD + "player abcdefgh mix 1 1 1;");
        good(HEAD + "player stuvwxyz mix 1 1 1;");
        read(HEAD + "player abcdefghi mix 1 1 1;", 1, 20);
        read(HEAD + "player " + "a".repeat(500), 1, 20);
        read(HEAD + "player a\u0060 mix 1 1 1;", 1, 21);
        read(HEAD + "player z{ mix 1 1 1;", 1, 21);
        read(HEAD + "player A mix 1 1 1;", 1, 20);
        read(HEAD + "player aZ mix 1 1 1;", 1, 21);
    }

    private static void numberRuns() {
        Checks.sentence("TEXT", "a number (a maximal run of digits, 1 to 4 digits)");
        good(HEAD + "link 1 0;");
        good(HEAD + "link 1 9999;");
        good(HEAD + "link 0001 0000;");
        read(HEAD + "link 1 00000;", 1, 20);
        read(HEAD + "link 1 10000;", 1, 20);
        read(HEAD + "link 00001 1;", 1, 18);
        read(HEAD + "link 1 " + "0".repeat(500) + ";", 1, 20);
        read(HEAD + "link 1 4294967297;", 1, 20);
        read(HEAD + "link 1 1/;", 1, 21);
        read(HEAD + "link 1 1:;", 1, 21);
        SharedLink x = Checks.net(HEAD + "link 10 0123;link 0200 98;");
        Checks.due("the rates", "123 98", () -> x.rate(9) + " " + x.rate(10));
    }

    /** Between "net" and "1 1 1 10;" a letter makes another word, a digit another number, any other byte an invalid token. */
    private static void allBytes() {
        Checks.sentence("TEXT", "A longer run, and any other byte, is an invalid token.");
        for (int b = 0; b < 256; b++) {
            String text = "net" + (char) b + "1 1 1 10;";
            if (b == 32 || b == 10 || b == '0' || b == '1') {
                good(text);
            } else if (b >= '2' && b <= '9') {
                read(text, 3, 3);
            } else if (b >= 'a' && b <= 'z') {
                read(text, 1, 0);
            } else {
                read(text, 1, 3);
            }
            boolean ignored = b == 32 || b == 10;
            read(HEAD + (char) b, ignored ? 0 : 1, ignored ? -1 : 13);
        }
    }

    private static void grammar() {
        Checks.sentence("TEXT", "net = \"net\" length start full safety \";\" { statement \";\" }");
        good(HEAD);
        read("", 1, 0);
        read("net;", 1, 3);
        read("net 1;", 1, 5);
        read("net 1 1;", 1, 7);
        read("net 1 1 1;", 1, 9);
        read("net 1 1 1 10 10;", 1, 13);
        read("net 1 1 1 10", 1, 12);
        read("1 1 1 1 10;", 1, 0);
        read(HEAD + ";", 1, 13);
        read(HEAD + HEAD, 1, 13);
        read(HEAD + "7;", 1, 13);
        read(HEAD + "mix;", 1, 13);
        Checks.sentence("TEXT", "statement = \"link\" ticks rate | \"vary\" percent { percent } | \"join\" player tick");
        read(HEAD + "link;", 1, 17);
        read(HEAD + "link 1;", 1, 19);
        read(HEAD + "link 1 1 1;", 1, 22);
        read(HEAD + "link 1 1", 1, 21);
        read(HEAD + "vary;", 1, 17);
        good(HEAD + "vary 50;");
        read(HEAD + "vary 50 a;", 1, 21);
        read(ONE + "join;", 1, 36);
        read(ONE + "join a;", 1, 38);
        read(ONE + "join a 1 1;", 1, 41);
        read(ONE + "join 1 a;", 1, 37);
        Checks.sentence("TEXT", "\"player\" name rule segments weight size { size }");
        read(HEAD + "player;", 1, 19);
        read(HEAD + "player a;", 1, 21);
        read(HEAD + "player a mix;", 1, 25);
        read(HEAD + "player a mix 1;", 1, 27);
        read(HEAD + "player a mix 1 1;", 1, 29);
        read(HEAD + "player a mix 1 1 1 b;", 1, 32);
        read(HEAD + "player a 1 1 1;", 1, 22);
        Checks.sentence("TEXT", "rule = \"lowest\" | \"buffer\" | \"rate\" | \"mix\"");
        SharedLink x = Checks.net(HEAD + "player d mix 1 1 1;player c rate 1 1 1;player b buffer 1 1 1;player a lowest 1 1 1;");
        Checks.due("the rules", "3 2 1 0", () -> Checks.row(0, 3, p -> x.player(p, 12)));
        read(HEAD + "player a mi 1 1 1;", 1, 22);
        read(HEAD + "player a mixx 1 1 1;", 1, 22);
        read(HEAD + "player a lowes 1 1 1;", 1, 22);
        read(HEAD + "player a rates 1 1 1;", 1, 22);
        read(HEAD + "player a a 1 1 1;", 1, 22);
    }

    private static void names() {
        Checks.sentence("TEXT", "name is any word, player a word that is the name of an earlier player");
        SharedLink x = Checks.net(HEAD + "player net mix 1 1 1;player join rate 1 1 1;player player mix 1 1 1;player vary mix 1 1 1;"
                + "join player 7;join join 8;join net 9;");
        Checks.due("the ticks of join", "9 8 7 0", () -> Checks.row(0, 3, p -> x.player(p, 16)));
        Checks.due("by its name", 2, () -> Checks.find(x, "player"));
        good(HEAD + "player a mix 1 1 1;player aa mix 1 1 1;player aaa mix 1 1 1;player aaaaaaaa mix 1 1 1;join aa 1;");
    }

    private static void ranges() {
        Checks.sentence("TEXT", "length is 1 to 20, start 1 to 60, full 1 to 200, safety 10 to 100");
        range("net ", 1, 20, " 1 1 10;");
        range("net 1 ", 1, 60, " 1 10;");
        range("net 1 1 ", 1, 200, " 10;");
        range("net 1 1 1 ", 10, 100, ";");
        SharedLink x = Checks.net("net 20 60 200 100;");
        Checks.due("the most of each", "20 60 200 100", () -> Checks.row(2, 5, x::size));
        SharedLink y = Checks.net("net 1 1 1 10;");
        Checks.due("the least of each", "1 1 1 10", () -> Checks.row(2, 5, y::size));
        Checks.sentence("TEXT", "ticks 1 to 200, rate 0 to 9999, percent 50 to 200, tick 0 to 999");
        range(HEAD + "link ", 1, 200, " 1;");
        range(HEAD + "link 1 ", 0, 9999, ";");
        range(HEAD + "vary ", 50, 200, ";");
        range(HEAD + "vary 50 ", 50, 200, ";");
        range(HEAD + "vary 50 50 50 ", 50, 200, ";");
        range(ONE + "join a ", 0, 999, ";");
        Checks.sentence("TEXT", "segments 1 to 30, weight 1 to 9, size 1 to 9999");
        range(HEAD + "player a mix ", 1, 30, " 1 1;");
        range(HEAD + "player a mix 1 ", 1, 9, " 1;");
        range(HEAD + "player a mix 1 1 ", 1, 9999, ";");
        SharedLink z = Checks.net(HEAD + "player a mix 30 9 9999;player b mix 1 1 1;join a 999;join b 0;");
        Checks.due("segments, weight, tick of join", "30 9 1 999 1 1 1 0", () -> z.player(0, 14) + " " + z.player(0, 13) + " "
                + z.player(0, 15) + " " + z.player(0, 16) + " " + z.player(1, 14) + " " + z.player(1, 13) + " "
                + z.player(1, 15) + " " + z.player(1, 16));
    }

    private static void growingSizes() {
        Checks.sentence("TEXT", "each size of a player is greater than the one before");
        good(HEAD + "player a mix 1 1 1 2;");
        good(HEAD + "player a mix 1 1 1 9999;");
        good(HEAD + "player a mix 1 1 9996 9997 9998 9999;");
        read(HEAD + "player a mix 1 1 5 5;", 6, 32);
        read(HEAD + "player a mix 1 1 5 4;", 6, 32);
        read(HEAD + "player a mix 1 1 5 6 7 7;", 6, 36);
        read(HEAD + "player a mix 1 1 5 6 7 6;", 6, 36);
        good(HEAD + "player a mix 1 1 8 9;player b mix 1 1 1 2;");
        good(HEAD + "player a mix 1 1 0005 06;");
    }

    private static void mostOfEach() {
        Checks.sentence("TEXT", "There are at most 8 links, 4 percents, 4 players and 4 sizes of a player.");
        SharedLink x = Checks.net(FOUR + "link 1 1;".repeat(8) + "vary 50 50 50 50;");
        Checks.due("players, pieces and percents", "4 8 4", () -> x.size(0) + " " + x.size(1) + " " + x.size(6));
        SharedLink y = Checks.net(HEAD + "player a mix 1 1 1 2 3 4;player b mix 1 1 1 2 3 4;");
        Checks.due("qualities", "4 4", () -> Checks.row(0, 1, p -> y.player(p, 15)));
        read(HEAD + "link 1 1;".repeat(9), 5, 13 + 8 * 9);
        read(HEAD + "vary 50 50 50 50 50;", 5, 30);
        read(FOUR + "player e mix 1 1 1;", 5, FOUR.length());
        read(HEAD + "player a mix 1 1 1 2 3 4 5;", 5, 38);
        SharedLink none = Checks.net(HEAD);
        Checks.due("none of each", "0 0 0", () -> none.size(0) + " " + none.size(1) + " " + none.size(6));
    }

    private static void onceOnly() {
        Checks.sentence("TEXT", "\"vary\" can occur once, \"join\" once for each player.");
        good(HEAD + "vary 50 50;");
        read(HEAD + "vary 50;vary 50;", 2, 21);
        good(FOUR + "join a 1;join b 1;join c 1;join d 1;");
        good(FOUR + "join d 1;join c 1;join b 1;join a 1;");
        read(FOUR + "join d 1;join c 1;join d 2;", 2, FOUR.length() + 9 + 9 + 5);
        read(ONE + "join a 0;join a 0;", 2, ONE.length() + 9 + 5);
    }

    private static void code1() {
        Checks.sentence("TEXT", "1: an invalid token, a token that the grammar does not allow at this place, or a text that ends too early.");
        read(HEAD + "link 1 ?;", 1, 20);
        read(HEAD + "link 1 a;", 1, 20);
        read(HEAD + "link 1 ;", 1, 20);
        read(HEAD + "link 1 ", 1, 20);
        read(HEAD + "link 1 12345;", 1, 20);
        read(HEAD + "join abcdefghi 1;", 1, 18);
        read(HEAD + "join 1 1;", 1, 18);
        read(HEAD + "join ", 1, 18);
    }

    private static void code2() {
        Checks.sentence("TEXT", "2: a name that an earlier player has; the word of a second vary; the player of a join who has one already.");
        read(ONE + "player a mix 1 1 1;", 2, 39);
        read(HEAD + "player abcdefgh mix 1 1 1;player abcdefgh mix 1 1 1;", 2, 46);
        good(HEAD + "player abcdefgh mix 1 1 1;player abcdefgi mix 1 1 1;player bcdefgh mix 1 1 1;");
        read(FOUR.substring(0, 70) + "player c", 2, 77);
        read(HEAD + "vary 50;vary", 2, 21);
        read(ONE + "join a 1;join a", 2, 46);
    }

    private static void code3() {
        Checks.sentence("TEXT", "3: a number out of its range.");
        read("net 0 0 0 0;", 3, 4);
        read("net 9999 1 1 10;", 3, 4);
        read(HEAD + "link 201 0;", 3, 18);
        read(HEAD + "vary 50 50 50 201;", 3, 27);
        read(ONE + "join a 1000;", 3, 39);
    }

    private static void code4() {
        Checks.sentence("TEXT", "4: a player that is no earlier one.");
        read(HEAD + "join a 1;", 4, 18);
        read(HEAD + "join a", 4, 18);
        read(HEAD + "join a 1;player a mix 1 1 1;", 4, 18);
        read(HEAD + "player aa mix 1 1 1;join a 1;", 4, 38);
        read(HEAD + "player a mix 1 1 1;join aa 1;", 4, 37);
        read(FOUR + "join e 1;", 4, FOUR.length() + 5);
        good(HEAD + "player aa mix 1 1 1;join aa 1;");
    }

    private static void code5() {
        Checks.sentence("TEXT", "5: the first word of the statement of a ninth link or a fifth player; a fifth percent or size.");
        String eight = HEAD + "link 1 1;".repeat(8);
        read(eight + "link", 5, eight.length());
        read(eight + "link 0 0;", 5, eight.length());
        read(eight + "link ?", 5, eight.length());
        good(eight + "vary 50;player a mix 1 1 1;");
        read(FOUR + "player", 5, FOUR.length());
        read(FOUR + "player a", 5, FOUR.length());
        good(FOUR + "link 1 1;vary 50;join d 1;");
        read(HEAD + "vary 50 50 50 50 50", 5, 30);
        read(HEAD + "player a mix 1 1 1 2 3 4 9", 5, 38);
    }

    private static void code6() {
        Checks.sentence("TEXT", "6: a size that is not greater than the one before.");
        good(HEAD + "player a mix 1 1 3 4;");
        read(HEAD + "player a mix 1 1 3 3;", 6, 32);
        read(HEAD + "player a mix 1 1 3 1;", 6, 32);
        read(HEAD + "player a mix 1 1 9999 9999", 6, 35);
    }

    private static void smallestPosition() {
        Checks.sentence("TEXT", "The error with the smallest position is reported.");
        read("net 1 1 1 101;link 0 0;", 3, 10);
        read(HEAD + "player a mix 1 1 5 5;link 0 1;?", 6, 32);
        read(HEAD + "link 1 1;vary 50;vary 50;?", 2, 30);
        read(HEAD + "join b 1000;", 4, 18);
        read(HEAD + "link 0 ?", 3, 18);
        read(HEAD + "vary 49 50 50 50 50;", 3, 18);
    }

    private static void smallestCode() {
        Checks.sentence("TEXT", "If several codes apply at one position, the smallest is reported.");
        read(HEAD + "vary 50 50 50 50 201;", 3, 30);
        read(HEAD + "vary 50 50 50 50 49;", 3, 30);
        read(HEAD + "vary 50 50 50 50 50;", 5, 30);
        read(HEAD + "vary 50 50 50 50 00050;", 1, 30);
        read(HEAD + "player a mix 1 1 1 2 3 4 0;", 3, 38);
        read(HEAD + "player a mix 1 1 1 2 3 4 4;", 5, 38);
        read(HEAD + "player a mix 1 1 1 2 3 4 10000;", 1, 38);
        read(HEAD + "player a mix 1 1 1 0;", 3, 32);
        read(HEAD + "player a mix 1 1 1 00001;", 1, 32);
    }

    private static void positionOfToken() {
        Checks.sentence("TEXT", "The position of an error is the index of the first byte of its token");
        read("?", 1, 0);
        read("abcdefghijkl", 1, 0);
        read("  \n abcdefghijkl", 1, 4);
        read("net 0021 1 1 10;", 3, 4);
        read("net 1 1 1 10;\n\n  links 1 1;", 1, 17);
        read("net 1 1 1 10;link 1   99999;", 1, 22);
        read(HEAD + "player abcd mix 1 1 1;player  abcd ", 2, 43);
    }

    private static void positionOfEnd() {
        Checks.sentence("TEXT", "if the text ends too early, it is the length of the text");
        read("", 1, 0);
        read("\n", 1, 1);
        read("net", 1, 3);
        read("net 1 1 1 10", 1, 12);
        read("net 1 1 1 10   ", 1, 15);
        read("net 1 1 1 10;link 1 1 \n\n", 1, 24);
        SharedLink x = new SharedLink();
        Checks.put(x, " ".repeat(600));
        Checks.due("600 spaces", 1, () -> x.parse(600));
        Checks.due("their length", 600, x::errorPosition);
        Checks.put(x, HEAD);
        Checks.due("a text that is cut", 1, () -> x.parse(9));
        Checks.due("its length", 9, x::errorPosition);
    }

    // ---- promises 1 to 7

    private static void newObject() {
        Checks.sentence("Promise 1 (A new object)", "Creates a net as with the text \"net 1 1 1 10;\", with an empty input buffer.");
        SharedLink x = new SharedLink();
        SharedLink y = Checks.net(HEAD);
        Checks.due("as with the text", Checks.state(y), () -> Checks.state(x));
        Checks.due("settings", "0 0 1 1 1 10 0 0 0 0 0", () -> Checks.row(0, 10, x::size));
        Checks.due("the rate", 100, () -> x.rate(0));
        Checks.outOfBounds("no player", () -> x.player(0, 0));
        Checks.outOfBounds("no piece", () -> x.setRate(0, 0));
        Checks.due("undo", -1, x::undo);
        Checks.illegalState("slot 0", () -> x.restoreSnapshot(0));
        Checks.illegalState("slot 1", () -> x.restoreSnapshot(1));
        Checks.illegalArgument("a byte of the buffer", () -> x.parse(1));
        Checks.due("the first append", 20, () -> x.append(0, 0, 0, 0, 0));
        Checks.due("it runs", 200, () -> x.run(200));
    }

    private static void appendOrder() {
        Checks.sentence("Promise 2 (append)", "the four bytes of each argument, the most significant byte first");
        SharedLink x = new SharedLink();
        x.append(0x6e657431, 0x32203334, 0x20353620, 0x37383b20, 0x20202020);
        Checks.due("net12 34 56 78;", 0, () -> x.parse(20));
        Checks.due("the settings", "12 34 56 78", () -> Checks.row(2, 5, x::size));
        for (int at = 0; at < 20; at++) {
            int[] words = {0x20202020, 0x20202020, 0x20202020, 0x20202020, 0x20202020};
            words[at / 4] |= 0xdf << 24 - at % 4 * 8;
            Checks.due("a byte 255", 20, () -> x.append(words[0], words[1], words[2], words[3], words[4]));
            Checks.due("is invalid", 1, () -> x.parse(20));
            Checks.due("it is at", at, x::errorPosition);
        }
    }

    private static void appendLength() {
        Checks.sentence("Promise 2 (append)", "Returns the new length of the buffer");
        SharedLink x = new SharedLink();
        for (int length = 20; length <= 600; length += 20) {
            Checks.due("append", length, () -> x.append(LEAST, -1, 0, 1, MOST));
        }
        x.find();
        Checks.due("after find", 20, () -> x.append(0, 0, 0, 0, 0));
        Checks.due("again", 40, () -> x.append(0, 0, 0, 0, 0));
        x.parse(0);
        Checks.due("after parse", 20, () -> x.append(0, 0, 0, 0, 0));
    }

    private static void appendBeyond() {
        Checks.sentence("Promise 2 (append)", "NONE, with nothing appended, if it would exceed 600.");
        SharedLink x = new SharedLink();
        Checks.put(x, HEAD + " ".repeat(600 - 13 - 8) + "link 1 7");
        Checks.due("beyond 600", -1, () -> x.append(0x3b3b3b3b, 0x3b3b3b3b, 0x3b3b3b3b, 0x3b3b3b3b, 0x3b3b3b3b));
        Checks.due("again", -1, () -> x.append(0, 0, 0, 0, 0));
        Checks.illegalArgument("no byte more", () -> x.parse(601));
        Checks.due("the bytes are as they were", 1, () -> x.parse(600));
        Checks.due("to the last one", 600, x::errorPosition);
        Checks.put(x, HEAD + " ".repeat(580 - 13));
        Checks.due("just to 600", 600, () -> x.append(0x6c696e6b, 0x20312037, 0x3b202020, 0x20202020, 0x20202020));
        Checks.due("beyond", -1, () -> x.append(0x3b3b3b3b, 0, 0, 0, 0));
        Checks.due("the whole", 0, () -> x.parse(600));
        Checks.due("its link", 7, () -> x.rate(0));
    }

    private static void parseFirstBytes() {
        Checks.sentence("Promise 3 (parse)", "Parses the first length bytes of the input buffer as a text.");
        String text = "net 1 1 1 10;link 1 77;?";
        int[][] due = {{0, 1, 0}, {12, 1, 12}, {13, 0, -1}, {14, 1, 13}, {17, 1, 17}, {20, 1, 20}, {21, 1, 21}, {22, 1, 22},
            {23, 0, -1}, {24, 1, 23}};
        for (int[] row : due) {
            SharedLink x = new SharedLink();
            Checks.put(x, text);
            Checks.due("the first " + row[0], row[1], () -> x.parse(row[0]));
            Checks.due("the position", row[2], x::errorPosition);
            Checks.due("pieces", row[0] == 23 ? 1 : 0, () -> x.size(1));
        }
    }

    private static void parseOutOfRange() {
        Checks.sentence("Promise 3 (parse)", "Throws IllegalArgumentException if length is out of range");
        SharedLink x = new SharedLink();
        for (int length : new int[] {-1, 1, 20, 600, MOST, LEAST}) {
            Checks.illegalArgument("parse(" + length + ") of an empty buffer", () -> x.parse(length));
        }
        Checks.sentence("Promise 3 (parse)", "length: 0 to the length of the buffer");
        Checks.due("parse(0) of an empty buffer", 1, () -> x.parse(0));
        for (int fill = 20; fill <= 600; fill += 580) {
            int filled = fill;
            SharedLink y = new SharedLink();
            Checks.put(y, " ".repeat(fill));
            for (int length : new int[] {-1, fill + 1, fill + 20, MOST, LEAST}) {
                Checks.illegalArgument("parse(" + length + ") of " + fill, () -> y.parse(length));
            }
            Checks.due("parse(" + fill + ")", 1, () -> y.parse(filled));
            Checks.due("its position", fill, y::errorPosition);
        }
    }

    /** The second net of an object whose first one left nothing as it was at the beginning. */
    private static SharedLink replaced(String text) {
        SharedLink x = Checks.net("net 1 60 20 100;link 3 5000;link 2 6000;vary 90 110;player a buffer 30 1 30 60 90;player b buffer 9 2 30 31;"
                + "join a 3;join b 9;");
        x.run(15);
        x.setRate(0, 0);
        x.setRate(1, 0);
        x.setRule(0, 2);
        x.setWeight(0, 9);
        x.quit(1);
        x.run(1);
        x.saveSnapshot(0);
        x.saveSnapshot(1);
        // a has asked with the buffers 0 to 12, for the qualities buffer * 3 / 20; then by its rate of 66 for 90 percent of 60
        Checks.due("the first net: qualities, missing bytes", "5 1 54", () -> x.player(0, 9) + " " + x.player(0, 3) + " " + x.player(0, 4));
        Checks.due("the second net", 0, () -> Checks.parse(x, text));
        return x;
    }

    private static void parseReplaces() {
        Checks.sentence("Promise 3 (parse)", "On success the described net replaces the current one.");
        String text = "net 1 60 200 50;player b lowest 12 2 10 20;link 4 25;join b 2;";
        Checks.due("as in a new object", Checks.state(Checks.net(text)), () -> Checks.state(replaced(text)));
        SharedLink x = replaced(text);
        Checks.sentence("CHANGES", "A successful parse clears the undo history and empties both slots.");
        Checks.due("no change to undo", "0 -1", () -> x.size(10) + " " + x.undo());
        Checks.illegalState("slot 0", () -> x.restoreSnapshot(0));
        Checks.illegalState("slot 1", () -> x.restoreSnapshot(1));
        Checks.due("no earlier snapshot", "false false", () -> x.saveSnapshot(0) + " " + x.saveSnapshot(1));
        Checks.sentence("Promise 3 (parse)", "On success the described net replaces the current one.");
        SharedLink y = Checks.net(text);
        for (int time = 1; time <= 16; time++) {
            x.run(1);
            y.run(1);
            String due = Checks.row(0, 16, what -> y.player(0, what));
            Checks.due("as in a new object at " + time, due, () -> Checks.row(0, 16, what -> x.player(0, what)));
        }
        Checks.due("all as in a new object", Checks.state(y), () -> Checks.state(x));
        SharedLink z = replaced(text);
        z.run(16);
        Checks.due("the same text again", 0, () -> Checks.parse(z, text));
        Checks.due("is as new", Checks.state(Checks.net(text)), () -> Checks.state(z));
    }

    private static void parseErrorKeeps() {
        Checks.sentence("Promise 3 (parse)", "On a parse error nothing changes except that the whole buffer is emptied");
        SharedLink x = Checks.net("net 2 2 8 100;link 3 10;vary 90 110;player a mix 9 1 30 60 90;");
        x.run(5);
        x.saveSnapshot(1);
        x.run(6);
        String before = Checks.state(x);
        for (String text : new String[] {"", "net 3 3 3 33;link 5 5;vary 200;player b mix 3 3 3;join b 3", "net 9 9 9 99;player a"}) {
            Checks.due("the error", 1, () -> Checks.parse(x, text));
            Checks.due("all is as before", before, () -> Checks.state(x));
            Checks.due("changes to undo", 2, () -> x.size(10));
            Checks.illegalArgument("the buffer is empty", () -> x.parse(1));
        }
        Checks.put(x, HEAD + " ".repeat(580));
        Checks.due("an error in the first bytes", 1, () -> x.parse(3));
        Checks.illegalArgument("the rest is gone as well", () -> x.parse(1));
        Checks.due("from 0 on", 20, () -> x.append(0, 0, 0, 0, 0));
        Checks.due("undo", 1, x::undo);
        Checks.due("the slot", 5, () -> x.restoreSnapshot(1));
    }

    private static void emptyAfterSuccess() {
        Checks.sentence("Promise 3 (parse)", "it is also empty after a success");
        SharedLink x = new SharedLink();
        Checks.put(x, HEAD + " ".repeat(587));
        Checks.due("the first 13 of 600 bytes", 0, () -> x.parse(13));
        Checks.illegalArgument("a byte", () -> x.parse(1));
        Checks.due("from 0 on", 20, () -> x.append(0x6e657420, 0x32203320, 0x34203530, 0x3b202020, 0x20202020));
        Checks.due("what was appended alone", 0, () -> x.parse(20));
        Checks.due("its length", 2, () -> x.size(2));
    }

    private static void errorPosition() {
        Checks.sentence("Promise 4 (errorPosition)", "Returns the position of the parse error of the last call of parse that did not throw an exception.");
        SharedLink x = new SharedLink();
        Checks.due("an error", 3, () -> Checks.parse(x, "net 0"));
        Checks.due("at", 4, x::errorPosition);
        Checks.illegalArgument("an exception", () -> x.parse(1));
        Checks.due("still at", 4, x::errorPosition);
        Checks.illegalArgument("another one", () -> x.parse(-1));
        x.run(1);
        Checks.find(x, "zz");
        x.undo();
        x.saveSnapshot(0);
        x.restoreSnapshot(0);
        Checks.due("and still at", 4, x::errorPosition);
        Checks.due("a later error", 1, () -> Checks.parse(x, HEAD + "?"));
        Checks.due("counts", 13, x::errorPosition);
    }

    private static void errorPositionNone() {
        Checks.sentence("Promise 4 (errorPosition)", "NONE if that call succeeded or there was none.");
        SharedLink x = new SharedLink();
        Checks.due("there was none", -1, x::errorPosition);
        Checks.illegalArgument("an exception", () -> x.parse(1));
        Checks.due("there was none but with an exception", -1, x::errorPosition);
        Checks.due("an error in the first byte", 1, () -> Checks.parse(x, "?"));
        Checks.due("is at 0", 0, x::errorPosition);
        Checks.due("a success", 0, () -> Checks.parse(x, HEAD));
        Checks.due("has none", -1, x::errorPosition);
        Checks.illegalArgument("an exception after it", () -> x.parse(21));
        Checks.due("has none either", -1, x::errorPosition);
    }

    private static void sizeOutOfRange() {
        Checks.sentence("Promise 5 (size)", "Throws IllegalArgumentException if what is out of range");
        SharedLink x = Checks.net("net 2 3 9 50;link 1 10;vary 50 60 70;player a mix 2 3 40 50;");
        for (int what : new int[] {-1, 11, 12, MOST, LEAST}) {
            Checks.illegalArgument("size(" + what + ")", () -> x.size(what));
        }
        Checks.due("size(0) to size(10)", "1 1 2 3 9 50 3 0 0 0 0", () -> Checks.row(0, 10, x::size));
    }

    private static void sizeOfLoading() {
        Checks.sentence("Promise 5 (size)", "8 players that load a segment (but those that have quit)");
        SharedLink x = Checks.net("net 2 1 9 50;link 1 0;player a mix 2 3 40;player b mix 2 3 40;player c mix 2 3 40;join c 1;");
        Checks.due("none has asked", 0, () -> x.size(8));
        x.run(1);
        Checks.due("c has not joined", 2, () -> x.size(8));
        x.run(1);
        Checks.due("all", 3, () -> x.size(8));
        x.quit(1);
        Checks.due("b has quit", 2, () -> x.size(8));
        x.setRate(0, 9999);
        x.run(1);
        Checks.due("all have come", 0, () -> x.size(8));
    }

    private static void sizeOfDone() {
        Checks.sentence("Promise 5 (size)", "9 players that are done");
        SharedLink x = Checks.net("net 2 1 9 50;player a mix 1 1 1;player b mix 1 1 1;player c mix 2 1 1;player d mix 1 1 1;join d 2;");
        x.quit(1);
        x.run(1);
        Checks.due("one tick is left for a", 0, () -> x.size(9));
        x.run(1);
        Checks.due("a, but not b that has quit", 1, () -> x.size(9));
        x.run(1);
        Checks.due("a alone", 1, () -> x.size(9));
        x.run(1);
        Checks.due("a, c and d", 3, () -> x.size(9));
    }

    private static void sizeOfChanges() {
        Checks.sentence("Promise 5 (size)", "10 changes that can be undone");
        SharedLink x = Checks.net(ONE);
        Checks.due("none", 0, () -> x.size(10));
        for (int i = 1; i <= 12; i++) {
            x.run(1);
            Checks.due("after " + i, Math.min(i, 10), () -> x.size(10));
        }
        for (int i = 9; i >= 0; i--) {
            x.undo();
            Checks.due("after an undo", i, () -> x.size(10));
        }
        x.undo();
        Checks.due("after one that did nothing", 0, () -> x.size(10));
        x.setWeight(0, 1);
        Checks.due("after a change that alters nothing", 1, () -> x.size(10));
    }

    private static void findName() {
        Checks.sentence("Promise 6 (find)", "Finds the player whose name the input buffer contains; bytes 32 may stand behind it");
        SharedLink x = Checks.net(HEAD + "player ab mix 1 1 1;player abcdefgh mix 1 1 1;player b mix 1 1 1;player a mix 1 1 1;");
        Checks.due("ab", 0, () -> Checks.find(x, "ab"));
        Checks.due("abcdefgh", 1, () -> Checks.find(x, "abcdefgh"));
        Checks.due("b", 2, () -> Checks.find(x, "b"));
        Checks.due("a, the last one", 3, () -> Checks.find(x, "a"));
        Checks.due("with 599 bytes 32", 3, () -> Checks.find(x, "a" + " ".repeat(599)));
        Checks.due("with 592 bytes 32", 1, () -> Checks.find(x, "abcdefgh" + " ".repeat(592)));
        Checks.due("a parse error", 1, () -> Checks.parse(x, "net 1 1 1 10;player abc"));
        Checks.due("after it", 1, () -> Checks.find(x, "abcdefgh"));
        Checks.due("what it would have described", -1, () -> Checks.find(x, "abc"));
    }

    private static void findNone() {
        Checks.sentence("Promise 6 (find)", "with anything else in the buffer there is none");
        SharedLink x = Checks.net(HEAD + "player ab mix 1 1 1;player abcdefgh mix 1 1 1;");
        Checks.due("an empty buffer", -1, x::find);
        String[] names = {" ", " ab", "\nab", "ab\n", "ab \n", "ab\u0000", "a", "abc", "b", "ab;", "ab1", "1ab", "ab ab", "a b", "AB",
            "abcdefg", "abcdefghi", "abcdefghabcdefgh", "zabcdefgh", "ab" + " ".repeat(597) + ";", ";", "5", "ab?", "\u00e1b"};
        for (String name : names) {
            Checks.due("find " + name.trim(), -1, () -> Checks.find(x, name));
        }
        Checks.due("without players", -1, () -> Checks.find(new SharedLink(), "ab"));
        for (int b = 0; b < 256; b++) {
            char sign = (char) b;
            SharedLink y = Checks.net(HEAD + "player ab mix 1 1 1;");
            Checks.due("the byte " + b + " behind it", b == 32 ? 0 : -1, () -> Checks.find(y, "ab" + sign));
            Checks.due("the byte " + b + " before it", -1, () -> Checks.find(y, sign + "ab"));
        }
    }

    private static void findEmpties() {
        Checks.sentence("Promise 6 (find)", "The buffer is empty afterwards.");
        SharedLink x = Checks.net(ONE);
        Checks.due("a name", 0, () -> Checks.find(x, "a"));
        Checks.illegalArgument("no byte", () -> x.parse(1));
        Checks.due("no name", -1, () -> Checks.find(x, "?" + " ".repeat(599)));
        Checks.illegalArgument("no byte", () -> x.parse(1));
        Checks.due("from 0 on", 20, () -> x.append(0, 0, 0, 0, 0));
    }

    private static void rateAgain() {
        Checks.sentence("THE LINK", "The pieces follow one another in the order of the text, and then again from the first one on.");
        SharedLink x = Checks.net(HEAD + "link 1 5;link 200 6;link 2 0;");
        int[] ticks = {0, 1, 200, 201, 202, 203, 204, 403, 404, 405, 406, 407};
        int[] due = {5, 6, 6, 0, 0, 5, 6, 6, 0, 0, 5, 6};
        for (int i = 0; i < ticks.length; i++) {
            int at = i;
            Checks.due("rate(" + ticks[i] + ")", due[i], () -> x.rate(ticks[at]));
        }
        SharedLink y = Checks.net(HEAD + "link 1 1;link 1 2;link 1 3;link 1 4;link 1 5;link 1 6;link 1 7;link 1 8;");
        Checks.due("eight pieces", "1 2 3 4 5 6 7 8 1 2", () -> Checks.row(0, 9, y::rate));
        Checks.due("the greatest tick", 8, () -> y.rate(MOST));
        Checks.due("one piece", 9, () -> Checks.net(HEAD + "link 3 9;").rate(3));
        SharedLink z = Checks.net(HEAD + "link 1 5;link 2 7;");
        int[] unused = {5, 12, 19, 24, 31, 38, 43};
        for (int sum : unused) {
            z.run(1);
            Checks.due("the rates of the ticks", sum, () -> z.account(1));
        }
    }

    private static void rateWithoutPieces() {
        Checks.sentence("THE LINK", "Without pieces the rate is 100.");
        SharedLink x = Checks.net(HEAD);
        for (int tick : new int[] {0, 1, 1999, 2000, MOST}) {
            Checks.due("rate(" + tick + ")", 100, () -> x.rate(tick));
        }
        x.run(3);
        Checks.due("in three ticks", 300, () -> x.account(1));
    }

    private static void rateNegative() {
        Checks.sentence("Promise 7 (rate)", "Throws IllegalArgumentException if tick is negative");
        SharedLink x = Checks.net(HEAD + "link 1 5;link 2 7;");
        Checks.due("rate(0)", 5, () -> x.rate(0));
        Checks.illegalArgument("rate(-1)", () -> x.rate(-1));
        Checks.illegalArgument("the least tick", () -> x.rate(LEAST));
        Checks.illegalArgument("without pieces", () -> new SharedLink().rate(-1));
    }
}
