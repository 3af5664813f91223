import java.util.NoSuchElementException;

/** What the tests say what is due with. */
final class Check {
    /** A call of the face, as a long. */
    interface Call {
        long answer();
    }

    private Check() {
    }

    static void due(String what, long want, long got) {
        if (want != got) {
            throw new AssertionError(what + " answered " + got + ", due is " + want);
        }
    }

    static void due(String what, boolean want, boolean got) {
        due(what, want ? 1 : 0, got ? 1 : 0);
    }

    /** The answer, or which exception came. */
    static String told(Call call) {
        try {
            return Long.toString(call.answer());
        } catch (RuntimeException e) {
            return e.getClass().getSimpleName();
        }
    }

    private static void dueThrow(String what, Class<?> want, Call call) {
        try {
            call.answer();
        } catch (RuntimeException e) {
            if (e.getClass() == want) {
                return;
            }
            throw new AssertionError(what + " threw " + e + ", due is " + want.getSimpleName());
        }
        throw new AssertionError(what + " threw nothing, due is " + want.getSimpleName());
    }

    static void noSuch(String what, Call call) {
        dueThrow(what, NoSuchElementException.class, call);
    }

    static void illegal(String what, Call call) {
        dueThrow(what, IllegalArgumentException.class, call);
    }

    /** Feeds a text, with blanks behind it up to a number of twenty bytes. */
    static void feed(MeshWaters x, String text) {
        for (int at = 0; at < text.length(); at += 20) {
            x.feed(four(text, at), four(text, at + 4), four(text, at + 8), four(text, at + 12), four(text, at + 16));
        }
    }

    private static int four(String text, int at) {
        int all = 0;
        for (int i = at; i < at + 4; i++) {
            all = all << 8 | (i < text.length() ? text.charAt(i) & 255 : ' ');
        }
        return all;
    }

    static int sea(MeshWaters x, String text) {
        feed(x, text);
        return x.sea(text.length());
    }

    static MeshWaters of(String text) {
        MeshWaters x = new MeshWaters();
        due("sea of " + text, 0, sea(x, text));
        return x;
    }
}
