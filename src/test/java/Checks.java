import java.nio.charset.StandardCharsets;
import java.util.Objects;
import java.util.function.IntFunction;

/** What the tests have in common: calls that are due an answer or an exception, and texts put into the buffer. */
final class Checks {
    private static int wrong = 0;
    private static int made = 0;
    private static String sentence = "";

    interface Call {
        Object answer();
    }

    private Checks() {
    }

    /** The sentence of the document, word by word, that the checks from here on test; it is told with what is wrong. */
    static void sentence(String place, String quote) {
        sentence = " (" + place + ": \"" + quote + "\")";
    }

    /** The answer of a call as a text, or the name of what it throws behind "throws.". */
    static String told(Call call) {
        try {
            return String.valueOf(call.answer());
        } catch (RuntimeException e) {
            return "throws." + e.getClass().getSimpleName();
        }
    }

    static void due(String what, Object want, Call call) {
        made++;
        String got = told(call);
        if (!Objects.equals(got, String.valueOf(want))) {
            wrong++;
            System.out.println(what + ": answered " + got + ", due is " + want + sentence);
        }
    }

    static void outOfBounds(String what, Call call) {
        due(what, "throws.IndexOutOfBoundsException", call);
    }

    static void illegalArgument(String what, Call call) {
        due(what, "throws.IllegalArgumentException", call);
    }

    static void illegalState(String what, Call call) {
        due(what, "throws.IllegalStateException", call);
    }

    /** Appends a text, with bytes 32 behind it up to a multiple of 20; returns the length of the text. */
    static int put(SharedLink x, String text) {
        byte[] bytes = text.getBytes(StandardCharsets.ISO_8859_1);
        for (int i = 0; i < bytes.length; i += 20) {
            x.append(four(bytes, i), four(bytes, i + 4), four(bytes, i + 8), four(bytes, i + 12), four(bytes, i + 16));
        }
        return bytes.length;
    }

    static int four(byte[] bytes, int from) {
        int bits = 0;
        for (int i = from; i < from + 4; i++) {
            bits = bits << 8 | (i < bytes.length ? bytes[i] & 255 : 32);
        }
        return bits;
    }

    static int parse(SharedLink x, String text) {
        return x.parse(put(x, text));
    }

    /** A new object with the net of a text. */
    static SharedLink net(String text) {
        SharedLink x = new SharedLink();
        due("parse of \"" + text + "\"", 0, () -> parse(x, text));
        return x;
    }

    /** The answers of a call for the numbers from a first to a last one, with a space between them. */
    static String row(int first, int last, IntFunction<Object> call) {
        StringBuilder all = new StringBuilder();
        for (int i = first; i <= last; i++) {
            int which = i;
            all.append(i == first ? "" : " ").append(told(() -> call.apply(which)));
        }
        return all.toString();
    }

    /** What the calls that change nothing tell, but for the changes that can be undone and the input buffer. */
    static String state(SharedLink x) {
        StringBuilder all = new StringBuilder();
        all.append("sizes ").append(row(0, 9, x::size)).append(" accounts ").append(row(0, 3, x::account));
        all.append(" rates ").append(row(0, 11, x::rate)).append(" least ").append(x.leastRate());
        all.append(" fairness ").append(x.fairness()).append(" whole ").append(x.isWhole());
        for (int i = 0; i < x.size(0); i++) {
            int p = i;
            all.append(" player ").append(row(0, 16, what -> x.player(p, what)));
            for (int part = 0; part < 4; part++) {
                int which = part;
                all.append(" loaded ").append(row(0, x.player(p, 2), k -> x.loaded(p, k, which)));
            }
            all.append(" would ").append(x.wouldChoose(p)).append(' ').append(x.share(p)).append(' ').append(x.meanQuality(p));
            all.append(" forecast ").append(row(0, 5, what -> x.forecast(p, what)));
            all.append(" steady ").append(x.steadyQuality(p)).append(" regret ").append(x.regret(p));
            all.append(" oracle ").append(row(0, 3, k -> x.oracle(p, k)));
        }
        return all.toString();
    }

    static int find(SharedLink x, String name) {
        put(x, name);
        return x.find();
    }

    static void end(String test) {
        System.out.println(test + ": " + made + " checks, " + wrong + " wrong");
        if (wrong != 0) {
            System.exit(1);
        }
    }
}
