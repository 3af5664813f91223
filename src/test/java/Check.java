import java.util.NoSuchElementException;

/** What the tests say what is due with. */
final class Check {
    /** A call of the face, as a long. */
    interface Call {
        long answer();
    }

    private Check() {
    }

    static void due(String what, long want, long got) {
        if (want != got) {
            throw new AssertionError(what + " answered " + got + ", due is " + want);
        }
    }

    static void due(String what, boolean want, boolean got) {
        due(what, want ? 1 : 0, got ? 1 : 0);
    }

    /** The answer, or which exception came. */
    static String told(Call call) {
        try {
            return Long.toString(call.answer());
        } catch (RuntimeException e) {
            return e.getClass().getSimpleName();
        }
    }

    private static void dueThrow(String what, Class<?> want, Call call) {
        try {
            call.answer();
        } catch (RuntimeException e) {
            if (e.getClass() == want) {
                return;
            }
            throw new AssertionError(what + " threw " + e + ", due is " + want.getSimpleName());
        }
        throw new AssertionError(what + " threw nothing, due is " + want.getSimpleName());
    }

    static void noSuch(String what, Call call) {
        dueThrow(what, NoSuchElementException.class, call);
    }

    static void illegal(String what, Call call) {
        dueThrow(what, IllegalArgumentException.class, call);
    }

    /** Feeds a text, with blanks behind it up to a number of twenty bytes. */
    static void feed(MeshWaters x, String text) {
        for (int at = 0; at < text.length(); at += 20) {
            x.feed(four(text, at), four(text, at + 4), four(text, at + 8), four(text, at + 12), four(text, at + 16));
        }
    }

    private static int four(String text, int at) {
        int all = 0;
        for (int i = at; i < at + 4; i++) {
            all = all << 8 | (i < text.length() ? text.charAt(i) & 255 : ' ');
        }
        return all;
    }

    static int sea(MeshWaters x, String text) {
        feed(x, text);
        return x.sea(text.length());
    }

    static MeshWaters of(String text) {
        MeshWaters x = new MeshWaters();
        due("sea of " + text, 0, sea(x, text));
        return x;
    }

    /** A text's FAULT, where it is, and that it is counted (0 and NONE: it has none). */
    static void fault(int kind, int at, String text) {
        MeshWaters x = new MeshWaters();
        due("FAULT of " + text, kind, sea(x, text));
        due("place of the FAULT of " + text, at, x.fault());
        due("STATUS behind " + text, kind == 0 ? 0 : 1, x.count(12));
    }

    /** A FAULT of the text that is written here, at the @ which is no part of it. */
    static void faulty(int kind, String marked) {
        int at = marked.indexOf('@');
        fault(kind, at, marked.substring(0, at) + marked.substring(at + 1));
    }

    static void right(String text) {
        fault(0, MeshWaters.NONE, text);
    }

    /** The PLACES of a pond that are TAKEN behind a number of YEARS: these and no others. */
    static void pond(String text, int years, int... taken) {
        MeshWaters x = of(text);
        due("years of " + text, taken.length, x.years(years));
        for (int place : taken) {
            due("pond " + place + " of " + text, true, x.pond(place));
        }
    }

    /** All that an object tells of itself when it is not asked for anything in particular. */
    static String state(MeshWaters x) {
        StringBuilder all = new StringBuilder();
        for (int what = 0; what < 15; what++) {
            all.append(x.count(what)).append(' ');
        }
        for (int net = 0; net < x.count(2); net++) {
            for (int what = 0; what < 5; what++) {
                all.append(x.net(net, what)).append(' ');
            }
        }
        for (int place = 0; place < x.count(4); place++) {
            all.append(x.pond(place) ? '1' : '0');
        }
        return all.append(" FAULT at ").append(x.fault()).toString();
    }

    /** That a call throws what is due (null: nothing) and leaves all as it is. */
    static void changesNothing(String what, Class<?> want, MeshWaters x, Call call) {
        String ahead = state(x);
        if (want == null) {
            call.answer();
        } else {
            dueThrow(what, want, call);
        }
        String behind = state(x);
        if (!ahead.equals(behind)) {
            throw new AssertionError(what + " made " + behind + " of " + ahead);
        }
    }
}
