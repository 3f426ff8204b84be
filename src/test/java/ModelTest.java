import java.nio.charset.StandardCharsets;
import java.util.Random;

/** Random runs of calls on the class and on the model: all answers and exceptions have to be the same. */
public final class ModelTest {
    private static final String[] SIGNS = {
        "(", ")", ",", ".", ":-", ":", "-", "!", "#", "_", "<", "=", "<>", ">", "+", "*", "is", " is ", "count", "sum", "X",
        "Y", "Z", "a", "p(", "p(1).", "1", "0", "12345678", " ", "\n", "\0", "\u00ff", "abcdefghijklm", "Abcdefghijklm",
        "/", ":-p(X)", ",p(X)", "X<", "A"};

    private final Random random;
    private final RoundReckoner real = new RoundReckoner();
    private final Model model = new Model();
    private final StringBuilder log = new StringBuilder();
    /** An object is used for at most 512 calls. */
    private int calls;

    private ModelTest(long seed) {
        random = new Random(seed);
    }

    public static void main(String[] args) {
        long first = args.length > 0 ? Long.parseLong(args[0]) : 1;
        int runs = args.length > 1 ? Integer.parseInt(args[1]) : 400;
        for (long seed = first; seed < first + runs && Checks.wrong < 5; seed++) {
            ModelTest test = new ModelTest(seed);
            int before = Checks.wrong;
            test.play();
            if (Checks.wrong > before) {
                System.out.println("seed " + seed + ":\n" + test.log);
            }
        }
        Checks.finish("ModelTest");
    }

    private interface Call {
        long on();
    }

    /** The answer, or the exception's class with what the machine says in it. */
    private static String outcome(Call call) {
        try {
            return "" + call.on();
        } catch (RuntimeException e) {
            return e.getClass().getSimpleName() + (e.getMessage() == null ? "" : e.getMessage());
        }
    }

    private String same(String what, Call one, Call other) {
        calls++;
        String got = outcome(one);
        String want = outcome(other);
        log.append(what).append(" -> ").append(got).append('\n');
        Checks.dueText(what, got, want);
        return got;
    }

    private void play() {
        int before = Checks.wrong;
        tell(10 + pick(20));
        while (calls < 420 && Checks.wrong == before) {
            if (ran() || pick(3) == 0) {
                step();
            } else {
                same("run", real::run, model::run);
                lookAtAll(2);
            }
        }
    }

    private boolean ran() {
        calls++;
        return outcome(() -> real.layer(-1)).equals("IndexOutOfBoundsException");
    }

    private int pick(int bound) {
        return random.nextInt(bound);
    }

    private void tell(int many) {
        put(text(many));
        same("tell", real::tell, model::tell);
    }

    private void step() {
        switch (pick(20)) {
            case 0: case 1: case 2:
                tell(1 + pick(5));
                break;
            case 3:
                put(maybeBreak(fact() + "."));
                same("untell", real::untell, model::untell);
                break;
            case 4:
                int r = pick(pick(2) == 0 ? 3 : 12) - 1;
                same("drop " + r, () -> real.drop(r), () -> model.drop(r));
                break;
            case 5:
                same("run", real::run, model::run);
                lookAtAll(1);
                break;
            case 6: case 7: case 8:
                put(maybeBreak(fact()));
                same("find", real::find, model::find);
                break;
            case 9: case 10:
                lookAtAll(1);
                break;
            case 11:
                counts();
                int n = pick(40) - 3;
                same("end " + n, () -> real.end(n), () -> model.end(n));
                break;
            default:
                put(maybeBreak(goals(-1)));
                String ways = same("ask", real::ask, model::ask);
                same("count 6", () -> real.count(6), () -> model.count(6));
                lookAtAnswers(ways.matches("[0-9]+") ? Integer.parseInt(ways) : 0);
                break;
        }
    }

    private void counts() {
        for (int what = -1; what <= 10; what++) {
            int w = what;
            same("count " + w, () -> real.count(w), () -> model.count(w));
        }
    }

    private void lookAtAnswers(int ways) {
        for (int n = 0; n < (ways > 0 ? 5 : 1); n++) {
            int i = pick(4) == 0 ? pick(110) - 1 : pick(Math.max(1, ways) + 1);
            int k = pick(5) - 1;
            same("answer " + i + " " + k, () -> real.answer(i, k), () -> model.answer(i, k));
        }
    }

    private void lookAtAll(int times) {
        counts();
        int size = Math.max(3, real.count(5));
        calls++;
        for (int n = 0; n < times; n++) {
            // The last ones came of rules.
            int i = pick(3) == 0 ? pick(size + 2) - 1 : size - 1 - pick(Math.min(size, 10));
            for (int what = -1; what <= 9; what++) {
                int w = what;
                same("tuple " + i + " " + w, () -> real.tuple(i, w), () -> model.tuple(i, w));
            }
            for (int atom = -1; atom < 4; atom++) {
                int k = atom;
                same("why " + i + " " + k, () -> real.why(i, k), () -> model.why(i, k));
            }
            same("show " + i, () -> real.show(i), () -> model.show(i));
            int at = pick(12) - 1;
            same("word " + at, () -> real.word(at), () -> model.word(at));
            int p = pick(10) - 1;
            same("layer " + p, () -> real.layer(p), () -> model.layer(p));
        }
    }

    private void put(String text) {
        log.append("text ").append(text).append('\n');
        byte[] bytes = text.getBytes(StandardCharsets.ISO_8859_1);
        same("end 0", () -> real.end(0), () -> model.end(0));
        for (int at = 0; at < bytes.length; at += 20) {
            int[] f = new int[5];
            for (int k = 0; k < 20; k++) {
                f[k / 4] = f[k / 4] << 8 | (at + k < bytes.length ? bytes[at + k] & 255 : 32);
            }
            same("feed", () -> real.feed(f[0], f[1], f[2], f[3], f[4]), () -> model.feed(f[0], f[1], f[2], f[3], f[4]));
        }
        int n = Math.min(bytes.length, 2000);
        same("end " + n, () -> real.end(n), () -> model.end(n));
    }

    // ---- texts ----

    private String blank() {
        return pick(6) == 0 ? pick(2) == 0 ? " " : "\n" : "";
    }

    private String constant() {
        int kind = pick(20);
        if (kind < 7) {
            return String.valueOf("abc".charAt(pick(3)));
        }
        if (kind < 18) {
            return "" + pick(4);
        }
        return kind == 18 ? "n" + pick(30) : "" + (pick(20000000) - 10000000) / (1 + pick(1000));
    }

    private String variable() {
        return String.valueOf("XYZUVW".charAt(pick(pick(3) == 0 ? 6 : 3)));
    }

    /** PREDICATES p to w; most texts use each with its own number of ARGS. */
    private static final String PREDICATES = "pqrstuvw";

    private int size(int predicate) {
        return pick(40) == 0 ? 1 + pick(4) : predicate % 3 + 1;
    }

    private static String letter(int predicate) {
        return String.valueOf(PREDICATES.charAt(predicate));
    }

    private String fact() {
        int p = pick(6) == 0 ? pick(8) : pick(4);
        int size = size(p);
        StringBuilder s = new StringBuilder(letter(p)).append(blank()).append('(');
        for (int k = 0; k < size; k++) {
            s.append(k == 0 ? "" : ",").append(blank()).append(constant()).append(blank());
        }
        return s.append(')').append(blank()).toString();
    }

    private String atom(int p, boolean negative) {
        int size = size(p);
        StringBuilder s = new StringBuilder(letter(p)).append(blank()).append('(');
        for (int k = 0; k < size; k++) {
            int kind = pick(10);
            String arg = kind == 0 ? constant() : kind == 1 || kind == 2 && negative ? "_" : variable();
            s.append(k == 0 ? "" : ",").append(arg).append(blank());
        }
        return s.append(')').toString();
    }

    private String value(String known) {
        return pick(3) == 0 || known.isEmpty() ? constant() : pick(40) == 0 ? variable()
            : String.valueOf(known.charAt(pick(known.length())));
    }

    private static String with(String known, String atom) {
        StringBuilder s = new StringBuilder(known);
        for (int k = 0; k < atom.length(); k++) {
            char c = atom.charAt(k);
            if (c >= 'A' && c <= 'Z' && s.indexOf("" + c) < 0) {
                s.append(c);
            }
        }
        return s.toString();
    }

    private String knownOfGoals = "";

    /** GOALS of a RULE whose HEAD is of this PREDICATE, -1 of none: ! ATOMS are mostly of those ahead of it. */
    private String goals(int head) {
        boolean wild = head < 0 || pick(15) == 0;
        int many = pick(30) == 0 ? 7 + pick(3) : 1 + pick(4);
        StringBuilder s = new StringBuilder();
        String known = "";
        for (int g = 0; g < many; g++) {
            s.append(g == 0 ? "" : ",").append(blank());
            int kind = g == 0 ? pick(20) : pick(12);
            if (kind < 6 || g == 0 && kind > 7) {
                String atom = atom(wild ? pick(8) : pick(head + 1), false);
                known = with(known, atom);
                s.append(atom);
            } else if (kind < 8) {
                s.append('!').append(blank()).append(negated(wild ? pick(8) : pick(Math.max(1, head)), known));
            } else if (kind < 10) {
                s.append(value(known)).append(blank()).append(new String[] {"<", "=", "<>"}[pick(3)]).append(blank())
                    .append(value(known));
            } else {
                String target = "NMKJIHGF".substring(g % 8, g % 8 + 1);
                if (known.isEmpty() || pick(20) == 0) {
                    target = variable();
                }
                s.append(target).append(" is ").append(value(known)).append(blank())
                    .append("+-*".charAt(pick(3))).append(blank()).append(value(known));
                known = with(known, target);
            }
            s.append(blank());
        }
        knownOfGoals = known;
        return s.toString();
    }

    /** Mostly of VARIABLES that are known. */
    private String negated(int p, String known) {
        String atom = atom(p, true);
        if (pick(8) == 0) {
            return atom;
        }
        StringBuilder s = new StringBuilder();
        for (char c : atom.toCharArray()) {
            boolean capital = c >= 'A' && c <= 'Z';
            s.append(!capital ? "" + c : known.isEmpty() ? "_" : "" + known.charAt(pick(known.length())));
        }
        return s.toString();
    }

    private String rule() {
        int p = 2 + pick(6);
        int size = size(p);
        int tally = pick(4) == 0 ? pick(size) : -1;
        String body = goals(tally >= 0 ? p - 1 : p);
        String known = knownOfGoals;
        StringBuilder s = new StringBuilder(letter(p)).append('(').append(blank());
        for (int k = 0; k < size; k++) {
            s.append(k == 0 ? "" : ",").append(blank());
            if (k == tally) {
                String word = known.isEmpty() ? "count" : new String[] {"count", "sum", "min", "max"}[pick(4)];
                s.append('#').append(blank()).append(word);
                s.append(word.equals("count") && pick(30) > 0 ? "" : " " + headVariable(known));
            } else {
                s.append(pick(5) == 0 ? constant() : headVariable(known));
            }
            s.append(blank());
        }
        return s.append(')').append(blank()).append(":-").append(blank()).append(body).append('.').toString();
    }

    private String headVariable(String known) {
        return known.isEmpty() ? constant() : pick(40) == 0 ? variable() : String.valueOf(known.charAt(pick(known.length())));
    }

    private String text(int many) {
        StringBuilder s = new StringBuilder(blank());
        for (int k = 0; k < many; k++) {
            s.append(pick(3) > 0 ? fact() + "." : rule()).append(blank());
            if (k % 8 == 0 && pick(40) == 0) {
                s.append("v(N,Y) :- v(X,Y), N is X + ").append(1 + pick(3)).append(", N < ").append(pick(500)).append(" . ");
            }
        }
        return maybeBreak(s.toString());
    }

    private String maybeBreak(String text) {
        if (pick(6) > 0) {
            return text;
        }
        StringBuilder s = new StringBuilder(text);
        int at = pick(s.length() + 1);
        switch (pick(4)) {
            case 0:
                s.setLength(at);
                break;
            case 1:
                s.delete(at, Math.min(s.length(), at + 1 + pick(2)));
                break;
            case 2:
                s.insert(at, SIGNS[pick(SIGNS.length)]);
                break;
            default:
                s.replace(at, Math.min(s.length(), at + 1), SIGNS[pick(SIGNS.length)]);
                break;
        }
        return s.toString();
    }
}
