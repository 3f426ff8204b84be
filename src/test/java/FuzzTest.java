import java.util.Random;

/**
 * Any arguments in any state, beyond the 512th call too: nothing is thrown but what the document names for the call,
 * and that by the class itself.
 */
public final class FuzzTest {
    private static final String BYTES = "pqrXYZ__(((())),,,,..::--!#<=>+*is count sum min max 0123456789 ab\n\0\u00ff";
    private static final String[] PARTS = {
        "p(1).", "p(X) :- p(Y), X is Y + 1, X < 9.", "p(", ")", ",", ":-", "q(X,Y)", "!q(X,_)", "X < Y", "X is 1 + 2", ".", "#",
        "r(# sum X) :- p(X).", "r(# count) :- q(_,_).", "q(a,b).", "q(X,Z) :- q(X,Y), q(Y,Z).", "s(X) :- p(X), !r(X).",
        "t(X,Y,Z) :- p(X), p(Y), p(Z).", "q(Y,X) :- p(X), Y is X * X.", "p(X)", " "};
    private static final int[] EDGES = {
        Integer.MIN_VALUE, Integer.MAX_VALUE, -1, 0, 1, 2, 3, 4, 7, 8, 9, 10, 20, 59, 60, 99, 100, 199, 200, 399, 400, 1980,
        1999, 2000, 2001, 1 << 28, 1 << 29, 1 << 30};

    private FuzzTest() {
    }

    public static void main(String[] args) {
        for (int seed = 0; seed < 150; seed++) {
            play(new Random(seed));
        }
        Checks.finish("FuzzTest");
    }

    private static int number(Random random) {
        int kind = random.nextInt(4);
        return kind == 0 ? random.nextInt() : kind == 1 ? random.nextInt(30) : EDGES[random.nextInt(EDGES.length)];
    }

    private static String text(Random random) {
        StringBuilder s = new StringBuilder();
        int parts = random.nextInt(12);
        for (int k = 0; k < parts; k++) {
            s.append(random.nextInt(4) > 0 ? PARTS[random.nextInt(PARTS.length)]
                : String.valueOf(BYTES.charAt(random.nextInt(BYTES.length()))));
        }
        return s.toString();
    }

    private static void play(Random random) {
        RoundReckoner x = new RoundReckoner();
        for (int call = 0; call < 700; call++) {
            int a = number(random);
            int b = number(random);
            switch (random.nextInt(20)) {
                case 0:
                    look("feed", () -> x.feed(a, b, a, b, a), "IndexOutOfBounds");
                    break;
                case 1:
                    look("end", () -> x.end(a), "IllegalArgument");
                    break;
                case 2: case 3: case 4:
                    Checks.put(x, text(random));
                    look("tell", x::tell, "");
                    break;
                case 5:
                    Checks.put(x, text(random));
                    look("untell", x::untell, "");
                    break;
                case 6:
                    look("drop", () -> x.drop(a), "IndexOutOfBounds");
                    break;
                case 7: case 8: case 9:
                    look("run", x::run, "UnsupportedOperation Arithmetic IndexOutOfBounds");
                    break;
                case 10:
                    look("tuple", () -> x.tuple(a, b), "IllegalArgument IllegalState IndexOutOfBounds");
                    break;
                case 11:
                    look("why", () -> x.why(a, b), "IllegalState IndexOutOfBounds");
                    break;
                case 12:
                    look("show", () -> x.show(a), "IllegalState IndexOutOfBounds");
                    break;
                case 13:
                    Checks.put(x, text(random));
                    look("find", x::find, "IllegalState");
                    break;
                case 14: case 15:
                    Checks.put(x, text(random));
                    look("ask", x::ask, "IllegalState Arithmetic");
                    break;
                case 16:
                    look("answer", () -> x.answer(a, b), "IndexOutOfBounds");
                    break;
                case 17:
                    look("layer", () -> x.layer(a), "IllegalState IndexOutOfBounds");
                    break;
                case 18:
                    look("word", () -> x.word(a), "IndexOutOfBounds");
                    break;
                default:
                    look("count", () -> x.count(a), "IllegalArgument");
                    break;
            }
        }
    }

    private static void look(String name, Checks.Call call, String allowed) {
        Checks.looked++;
        try {
            call.answer();
        } catch (RuntimeException e) {
            String kind = e.getClass().getSimpleName().replace("Exception", "");
            if (e.getMessage() != null || !(" " + allowed + " ").contains(" " + kind + " ")) {
                Checks.wrong++;
                e.printStackTrace(System.out);
                System.out.println(name + " threw " + e);
            }
        }
    }
}
