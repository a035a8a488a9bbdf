import java.nio.charset.StandardCharsets;
import java.util.Objects;

/** What the tests have in common: calls that are due an answer or an exception, and texts put into the buffer. */
final class Checks {
    private static int wrong = 0;
    private static int made = 0;

    interface Call {
        Object answer();
    }

    private Checks() {
    }

    /** The answer of a call as a text, or the name of what it throws behind "throws.". */
    static String told(Call call) {
        try {
            return String.valueOf(call.answer());
        } catch (RuntimeException e) {
            return "throws." + e.getClass().getSimpleName();
        }
    }

    static void due(String what, Object want, Call call) {
        made++;
        String got = told(call);
        if (!Objects.equals(got, String.valueOf(want))) {
            wrong++;
            System.out.println(what + ": answered " + got + ", due is " + want);
        }
    }

    static void outOfBounds(String what, Call call) {
        due(what, "throws.IndexOutOfBoundsException", call);
    }

    static void illegalArgument(String what, Call call) {
        due(what, "throws.IllegalArgumentException", call);
    }

    static void illegalState(String what, Call call) {
        due(what, "throws.IllegalStateException", call);
    }

    /** Appends a text, with bytes 32 behind it up to a multiple of 20; returns the length of the text. */
    static int put(SharedLink x, String text) {
        byte[] bytes = text.getBytes(StandardCharsets.ISO_8859_1);
        for (int i = 0; i < bytes.length; i += 20) {
            x.append(four(bytes, i), four(bytes, i + 4), four(bytes, i + 8), four(bytes, i + 12), four(bytes, i + 16));
        }
        return bytes.length;
    }

    static int four(byte[] bytes, int from) {
        int bits = 0;
        for (int i = from; i < from + 4; i++) {
            bits = bits << 8 | (i < bytes.length ? bytes[i] & 255 : 32);
        }
        return bits;
    }

    static int parse(SharedLink x, String text) {
        return x.parse(put(x, text));
    }

    /** A new object with the net of a text. */
    static SharedLink net(String text) {
        SharedLink x = new SharedLink();
        due("parse of \"" + text + "\"", 0, () -> parse(x, text));
        return x;
    }

    static int find(SharedLink x, String name) {
        put(x, name);
        return x.find();
    }

    static void end(String test) {
        System.out.println(test + ": " + made + " checks, " + wrong + " wrong");
        if (wrong != 0) {
            System.exit(1);
        }
    }
}
