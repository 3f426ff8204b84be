import java.nio.charset.StandardCharsets;

/** What all tests share: texts fed and read, answers and exceptions looked at. */
final class Checks {
    interface Call {
        long answer();
    }

    static int wrong = 0;
    static int looked = 0;

    private Checks() {
    }

    static void due(String what, long got, long want) {
        looked++;
        if (got != want) {
            wrong++;
            System.out.println(what + " answered " + got + ", due is " + want);
        }
    }

    static void dueText(String what, String got, String want) {
        looked++;
        if (!got.equals(want)) {
            wrong++;
            System.out.println(what + " answered " + got + ", due is " + want);
        }
    }

    /** The very class is due: a class below it would be one that the machine throws. */
    static void dueThrow(String what, Class<?> want, Call call) {
        looked++;
        String got;
        try {
            got = "answered " + call.answer();
        } catch (RuntimeException e) {
            if (e.getClass() == want && e.getMessage() == null) {
                return;
            }
            got = "threw " + e;
        }
        wrong++;
        System.out.println(what + " " + got + ", due is " + want.getSimpleName());
    }

    /** Makes the text THE TAPE'S. */
    static void put(RoundReckoner x, String text) {
        x.end(0);
        byte[] bytes = text.getBytes(StandardCharsets.ISO_8859_1);
        for (int at = 0; at < bytes.length; at += 20) {
            x.feed(four(bytes, at), four(bytes, at + 4), four(bytes, at + 8), four(bytes, at + 12), four(bytes, at + 16));
        }
        x.end(bytes.length);
    }

    private static int four(byte[] bytes, int at) {
        int all = 0;
        for (int k = 0; k < 4; k++) {
            all = all << 8 | (at + k < bytes.length ? bytes[at + k] & 255 : 0);
        }
        return all;
    }

    static int tell(RoundReckoner x, String text) {
        put(x, text);
        return x.tell();
    }

    static int untell(RoundReckoner x, String text) {
        put(x, text);
        return x.untell();
    }

    static int find(RoundReckoner x, String text) {
        put(x, text);
        return x.find();
    }

    static int ask(RoundReckoner x, String text) {
        put(x, text);
        return x.ask();
    }

    /** A new object that was told the text, and ran. */
    static RoundReckoner ranOf(String text) {
        RoundReckoner x = toldOf(text);
        x.run();
        return x;
    }

    static RoundReckoner toldOf(String text) {
        RoundReckoner x = new RoundReckoner();
        if (tell(x, text) < 0) {
            throw new IllegalArgumentException(text);
        }
        return x;
    }

    /** OUT, read by word. */
    static String out(RoundReckoner x) {
        StringBuilder text = new StringBuilder();
        int length = x.count(1);
        for (int at = 0; at < length; at += 8) {
            long eight = x.word(at);
            for (int k = 0; k < 8 && at + k < length; k++) {
                text.append((char) (eight >>> (56 - 8 * k) & 255));
            }
        }
        return text.toString();
    }

    static String shown(RoundReckoner x, int i) {
        x.show(i);
        return out(x);
    }

    /** All TUPLES as texts, in their order. */
    static String allShown(RoundReckoner x) {
        StringBuilder text = new StringBuilder();
        int count = x.count(5);
        for (int i = 0; i < count; i++) {
            text.append(i == 0 ? "" : " ").append(shown(x, i));
        }
        return text.toString();
    }

    /** The PLACE that a text marks by ^ ahead of the byte, or at the end if something lacks. */
    static int place(String marked) {
        return marked.indexOf('^');
    }

    static String unmarked(String marked) {
        return marked.replace("^", "");
    }

    /** FACTS name(from). to name(to - 1). */
    static String facts(String name, int from, int to) {
        StringBuilder text = new StringBuilder();
        for (int k = from; k < to; k++) {
            text.append(name).append('(').append(k).append(").");
        }
        return text.toString();
    }

    static String times(int many, String text) {
        StringBuilder all = new StringBuilder();
        for (int k = 0; k < many; k++) {
            all.append(text);
        }
        return all.toString();
    }

    /** What a call answers, or the name of what it throws. */
    static String said(Call call) {
        try {
            return Long.toString(call.answer());
        } catch (RuntimeException e) {
            return e.getClass().getSimpleName().replace("Exception", "");
        }
    }

    /**
     * All that a small object shows of itself, but for THE TAPE'S length: what a refused call has to leave as it was.
     * Some 200 calls.
     */
    static String state(RoundReckoner x) {
        StringBuilder all = new StringBuilder();
        for (int what = 1; what <= 9; what++) {
            int w = what;
            all.append(said(() -> x.count(w))).append(' ');
        }
        all.append('[').append(out(x)).append("] ");
        for (int i = 0; i <= Math.min(x.count(5), 8); i++) {
            int t = i;
            for (int what = 0; what <= 8; what++) {
                int w = what;
                all.append(said(() -> x.tuple(t, w))).append(' ');
            }
            for (int k = 0; k <= 2; k++) {
                int atom = k;
                all.append(said(() -> x.why(t, atom))).append(' ');
            }
        }
        for (int p = 0; p <= Math.min(x.count(4), 6); p++) {
            int q = p;
            all.append(said(() -> x.layer(q))).append(' ');
        }
        for (int i = 0; i <= 3; i++) {
            int way = i;
            for (int k = 0; k <= 2; k++) {
                int variable = k;
                all.append(said(() -> x.answer(way, variable))).append(' ');
            }
        }
        return all.toString();
    }

    static void finish(String name) {
        System.out.println(name + ": " + looked + " answers looked at, " + wrong + " wrong");
        if (wrong > 0) {
            System.exit(1);
        }
    }
}
