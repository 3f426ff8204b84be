/** Each promise in turn: ordinary inputs, the edges that the document names, wrong inputs. */
public final class PromisesTest {
    private static final Class<?> STATE = IllegalStateException.class;
    private static final Class<?> ARGUMENT = IllegalArgumentException.class;
    private static final Class<?> INDEX = IndexOutOfBoundsException.class;
    private static final Class<?> ARITHMETIC = ArithmeticException.class;
    private static final Class<?> UNSUPPORTED = UnsupportedOperationException.class;

    private static final String PATHS = "e(1,2). e(2,3). e(3,1). p(X,Y) :- e(X,Y). p(X,Z) :- p(X,Y), e(Y,Z).";

    private PromisesTest() {
    }

    public static void main(String[] args) {
        newObject();
        feed();
        end();
        tell();
        tellLimits();
        untell();
        drop();
        run();
        runLayers();
        runTallies();
        runGoals();
        runLimits();
        tuple();
        why();
        show();
        find();
        ask();
        askLimits();
        answer();
        layer();
        word();
        count();
        Checks.finish("PromisesTest");
    }

    private static void newObject() {
        RoundReckoner x = new RoundReckoner();
        for (int what = 0; what <= 9; what++) {
            Checks.due("new count " + what, x.count(what), 0);
        }
        Checks.dueThrow("new tuple", STATE, () -> x.tuple(0, 0));
        Checks.dueThrow("new why", STATE, () -> x.why(0, 0));
        Checks.dueThrow("new show", STATE, () -> x.show(0));
        Checks.dueThrow("new find", STATE, x::find);
        Checks.dueThrow("new ask", STATE, x::ask);
        Checks.dueThrow("new answer", INDEX, () -> x.answer(0, 0));
        Checks.dueThrow("new layer", STATE, () -> x.layer(0));
        Checks.dueThrow("new word", INDEX, () -> x.word(0));
        Checks.dueThrow("new drop", INDEX, () -> x.drop(0));
        Checks.due("new tell", x.tell(), 0);
        Checks.due("new untell", x.untell(), -1);
        Checks.due("new run", x.run(), 0);
        Checks.due("new ROUNDS", x.count(7), 0);
        Checks.due("new LAYERS", x.count(8), 0);
        Checks.due("new find after run", x.find(), -2);
        Checks.due("new ask after run", x.ask(), -1);
        Checks.dueThrow("new tuple after run", INDEX, () -> x.tuple(0, 0));
        Checks.dueThrow("new layer after run", INDEX, () -> x.layer(0));
    }

    private static void feed() {
        RoundReckoner x = new RoundReckoner();
        // "p(1,2). p(3,4). p(5,"
        int a = 'p' << 24 | '(' << 16 | '1' << 8 | ',';
        int b = '2' << 24 | ')' << 16 | '.' << 8 | ' ';
        int c = 'p' << 24 | '(' << 16 | '3' << 8 | ',';
        int d = '4' << 24 | ')' << 16 | '.' << 8 | ' ';
        int e = 'p' << 24 | '(' << 16 | '5' << 8 | ',';
        Checks.due("feed", x.feed(a, b, c, d, e), 20);
        Checks.due("feed more", x.feed(b, c, d, e, b), 40);
        Checks.due("fed", x.tell(), 5);
        Checks.due("FACTS fed", x.count(3), 3);
        for (int k = 1; k <= 100; k++) {
            Checks.due("feed " + k, x.feed(-1, 0, 1, 2, 3), 20 * k);
        }
        Checks.dueThrow("feed too much", INDEX, () -> x.feed(0, 0, 0, 0, 0));
        Checks.due("length behind it", x.count(0), 2000);
        x.end(1981);
        Checks.dueThrow("feed beyond by one", INDEX, () -> x.feed(0, 0, 0, 0, 0));
        x.end(1980);
        Checks.due("feed to the last", x.feed(0, 0, 0, 0, 0), 2000);
        Checks.due("byte 255", x.tell(), -1);
        Checks.due("tape empty", x.count(0), 0);
    }

    private static void end() {
        RoundReckoner x = new RoundReckoner();
        Checks.due("end 0 of none", x.end(0), 0);
        Checks.dueThrow("end 1 of none", ARGUMENT, () -> x.end(1));
        x.feed(0, 0, 0, 0, 0);
        Checks.dueThrow("end 21", ARGUMENT, () -> x.end(21));
        Checks.dueThrow("end -1", ARGUMENT, () -> x.end(-1));
        Checks.dueThrow("end least", ARGUMENT, () -> x.end(Integer.MIN_VALUE));
        Checks.dueThrow("end greatest", ARGUMENT, () -> x.end(Integer.MAX_VALUE));
        Checks.due("length kept", x.count(0), 20);
        Checks.due("end 20", x.end(20), 20);
        Checks.due("end 7", x.end(7), 7);
        Checks.due("length 7", x.count(0), 7);
        Checks.due("feed behind", x.feed(0, 0, 0, 0, 0), 27);
    }

    private static void tell() {
        RoundReckoner x = new RoundReckoner();
        Checks.due("tell paths", Checks.tell(x, PATHS), 5);
        Checks.due("tape", x.count(0), 0);
        Checks.due("RULES", x.count(2), 2);
        Checks.due("FACTS", x.count(3), 3);
        Checks.due("PREDICATES", x.count(4), 2);
        Checks.due("told twice", Checks.tell(x, "e(1,2). e(7,7).\ne(7,7)."), 3);
        Checks.due("FACTS told twice", x.count(3), 4);
        Checks.due("BROKEN", Checks.tell(x, "q(1). r(2) :- q(3). s(a, b). t(b"), -33);
        Checks.due("tape after BROKEN", x.count(0), 0);
        Checks.due("RULES after BROKEN", x.count(2), 2);
        Checks.due("FACTS after BROKEN", x.count(3), 4);
        Checks.due("PREDICATES after BROKEN", x.count(4), 2);
        Checks.due("NAMES after BROKEN", x.count(9), 2);
        Checks.due("blanks alone", Checks.tell(x, " \n \n"), 0);
        Checks.due("no blanks", Checks.tell(x, "a(1).b(X,Y):-a(X),!a(3),X<2,Y is X*-3.c(#count):-b(_,_)."), 3);
        Checks.due("many blanks", Checks.tell(x, " a ( \n 2 ) . \n b ( X , Y ) :- a ( X ) , ! a ( 3 ) , X < 2 , "
            + "Y is X * -3 . c ( # sum X ) :- b ( X , _ ) . "), 3);
        Checks.due("NAME and PREDICATE of one word", Checks.tell(x, "is(is). count(count,sum) :- is(is), is = is."), 2);
        Checks.due("long words", Checks.tell(x, "abcdefghijkl(a_0123456789, 9999999, -9999999)."), 1);
        x.run();
        Checks.due("broken tell keeps the run", Checks.tell(x, "e("), -3);
        Checks.due("TUPLES still", x.count(5) > 0 ? 1 : 0, 1);
        Checks.tell(x, "");
        Checks.due("TUPLES after an empty text", x.count(5) > 0 ? 1 : 0, 1);
        Checks.tell(x, "e(8,8).");
        Checks.due("TUPLES after a change", x.count(5), 0);
        Checks.dueThrow("find after a change", STATE, x::find);
    }

    private static void tellLimits() {
        RoundReckoner x = new RoundReckoner();
        for (int f = 0; f < 400; f += 100) {
            StringBuilder facts = new StringBuilder();
            for (int k = f; k < f + 100; k++) {
                facts.append("f(").append(k).append(").");
            }
            Checks.due("FACTS told", Checks.tell(x, facts.toString()), 100);
        }
        Checks.due("400 FACTS", x.count(3), 400);
        Checks.due("FACT 401", Checks.tell(x, "f(0). f(1).  f(400)."), -14);
        Checks.due("FACT told twice at the limit", Checks.tell(x, "f(399)."), 1);
        Checks.due("FACT 401 with a VARIABLE", Checks.tell(x, "f(X)."), -3);
        for (int r = 0; r < 60; r += 20) {
            StringBuilder rules = new StringBuilder();
            for (int k = 0; k < 20; k++) {
                rules.append("g(X) :- f(X).");
            }
            Checks.due("RULES told", Checks.tell(x, rules.toString()), 20);
        }
        Checks.due("60 RULES", x.count(2), 60);
        Checks.due("RULE 61", Checks.tell(x, " g(X) :- f(("), -2);
        Checks.due("RULE 61 without its sign", Checks.tell(x, " g(X) :"), -8);
        StringBuilder many = new StringBuilder();
        for (int p = 0; p < 19; p++) {
            many.append("h").append(p).append("(1).");
        }
        x = new RoundReckoner();
        Checks.due("19 PREDICATES", Checks.tell(x, many.toString()), 19);
        Checks.due("PREDICATE 20 and 21", Checks.tell(x, "h0(1,2). h0(1,2,3"), -18);
        Checks.due("19 PREDICATES left", x.count(4), 19);
        Checks.due("PREDICATE 21", Checks.tell(x, "h0(1,2). h0(1,2,3)"), -10);
        Checks.due("PREDICATE 21 in a GOAL", Checks.tell(x, "h0(1,2) :- h1(2), ! k(3)"), -21);
        Checks.due("PREDICATE 20", Checks.tell(x, "h0(1,2)."), 1);
        Checks.due("20 PREDICATES", x.count(4), 20);
    }

    private static void untell() {
        RoundReckoner x = Checks.toldOf("p(a). p(b). p(c). q(X) :- p(X).");
        Checks.due("untell", Checks.untell(x, " p ( b ) . "), 1);
        Checks.due("tape", x.count(0), 0);
        Checks.due("FACTS", x.count(3), 2);
        x.run();
        Checks.dueText("order kept", Checks.allShown(x), "p(a) p(c) q(a) q(c)");
        Checks.due("untell what is not told", Checks.untell(x, "p(b)."), 0);
        Checks.due("untell what follows alone", Checks.untell(x, "q(a)."), 0);
        Checks.due("untell another PREDICATE", Checks.untell(x, "r(new)."), 0);
        Checks.due("PREDICATES", x.count(4), 2);
        Checks.due("NAMES", x.count(9), 4);
        Checks.due("the run stands", x.count(5), 4);
        Checks.due("untell BROKEN", Checks.untell(x, "p(a"), -4);
        Checks.due("untell without .", Checks.untell(x, "p(a) "), -6);
        Checks.due("untell more behind", Checks.untell(x, "p(a). p(c)."), -7);
        Checks.due("untell a RULE", Checks.untell(x, "p(a) :- p(c)."), -6);
        Checks.due("untell a VARIABLE", Checks.untell(x, "p(X). x"), -3);
        Checks.due("untell a VARIABLE without .", Checks.untell(x, "p(X)"), -5);
        Checks.due("untell nothing", Checks.untell(x, ""), -1);
        Checks.due("FACTS left", x.count(3), 2);
        Checks.due("the run stands still", x.count(5), 4);
        Checks.due("untell the first", Checks.untell(x, "p(a)."), 1);
        Checks.due("no run", x.count(5), 0);
        Checks.dueThrow("no LAYER", STATE, () -> x.layer(0));
        Checks.due("run", x.run(), 2);
        Checks.due("PREDICATES stay", x.count(4), 2);
    }

    private static void drop() {
        RoundReckoner x = Checks.toldOf("p(1). a(X) :- p(X). b(X) :- p(X). c(X) :- p(X).");
        x.run();
        Checks.dueThrow("drop -1", INDEX, () -> x.drop(-1));
        Checks.dueThrow("drop 3", INDEX, () -> x.drop(3));
        Checks.dueThrow("drop greatest", INDEX, () -> x.drop(Integer.MAX_VALUE));
        Checks.due("the run stands", x.count(5), 4);
        Checks.due("drop 1", x.drop(1), 2);
        Checks.due("no run", x.count(5), 0);
        x.run();
        Checks.dueText("without b", Checks.allShown(x), "p(1) a(1) c(1)");
        Checks.due("c is RULE 1", x.tuple(2, 7), 1);
        Checks.due("drop 0", x.drop(0), 1);
        Checks.due("drop 0 again", x.drop(0), 0);
        Checks.dueThrow("drop of none", INDEX, () -> x.drop(0));
        Checks.due("PREDICATES stay", x.count(4), 4);
        Checks.due("tell anew", Checks.tell(x, "d(X) :- p(X). e(X) :- d(X)."), 2);
        x.run();
        Checks.dueText("told anew", Checks.allShown(x), "p(1) d(1) e(1)");
    }

    private static void run() {
        RoundReckoner x = Checks.toldOf(PATHS);
        Checks.due("run", x.run(), 12);
        Checks.dueText("TUPLES", Checks.allShown(x),
            "e(1,2) e(2,3) e(3,1) p(1,2) p(2,3) p(3,1) p(1,3) p(2,1) p(3,2) p(1,1) p(2,2) p(3,3)");
        // ROUND 1: each e; behind it: each p, and the one e behind each p of the ROUND before.
        Checks.due("ROUNDS", x.count(7), 4);
        Checks.due("STEPS", x.count(6), 3 + (3 + 3) + (6 + 3) + (9 + 3));
        Checks.due("LAYERS", x.count(8), 1);
        Checks.due("run again", x.run(), 12);
        Checks.due("STEPS again", x.count(6), 30);
    }

    private static void runLayers() {
        RoundReckoner x = Checks.ranOf("n(1). n(2). m(2). only(X) :- n(X), !m(X). none(X) :- n(X), !only(X), !m(_).");
        Checks.dueText("! ATOM", Checks.allShown(x), "n(1) n(2) m(2) only(1)");
        Checks.due("LAYERS", x.count(8), 3);
        Checks.due("ROUNDS", x.count(7), 1 + 2 + 1);
        x = Checks.ranOf("a(1) :- 1 < 2. z(2). z(3) :- !a(2). a(4) :- !b(1,1). c(5) :- z(X), !b(X,Y).");
        Checks.dueText("LAYER by LAYER", Checks.allShown(x), "a(1) a(4) z(2) z(3) c(5)");
        for (String text : new String[] {
            "p(1) :- !p(2).", "p(X) :- q(X). q(X) :- r(X), !p(X).", "p(# count) :- p(X).", "p(# count) :- !p(1).",
            "q(1). p(X) :- q(X), s(X). s(# max X) :- p(X)."}) {
            RoundReckoner y = Checks.toldOf(text);
            Checks.dueThrow("no LAYERS: " + text, UNSUPPORTED, y::run);
            Checks.due("no TUPLES", y.count(5), 0);
            Checks.due("no LAYERS", y.count(8), 0);
            Checks.dueThrow("no TUPLE", STATE, () -> y.tuple(0, 0));
        }
        RoundReckoner back = Checks.toldOf("p(1). q(1) :- p(1).");
        back.run();
        int steps = back.count(6);
        Checks.tell(back, "p(2) :- !p(3).");
        Checks.dueThrow("no LAYERS any more", UNSUPPORTED, back::run);
        Checks.due("STEPS stay", back.count(6), steps);
        Checks.due("ROUNDS stay", back.count(7), 2);
        Checks.due("LAYERS do not", back.count(8), 0);
        back.drop(1);
        Checks.due("LAYERS again", back.run(), 2);
    }

    private static void runTallies() {
        RoundReckoner x = Checks.ranOf("s(a,3). s(b,x). s(a,-5). s(c,7). s(b,y). s(c,z)."
            + "n(X,# count) :- s(X,_). t(X,# sum Y) :- s(X,Y). l(# min Y,X) :- s(X,Y). g(# max Y) :- s(_,Y)."
            + "e(# count) :- s(d,_). f(# sum Y) :- s(d,Y).");
        Checks.dueText("#", Checks.allShown(x), "s(a,3) s(b,x) s(a,-5) s(c,7) s(b,y) s(c,z) "
            + "n(a,2) n(b,2) n(c,2) t(a,-2) t(b,0) t(c,7) l(-5,a) l(7,c) g(7)");
        Checks.due("ROUND of #", x.tuple(6, 6), 0);
        Checks.due("RULE of #", x.tuple(9, 7), 1);
        Checks.due("ATOMS of #", x.tuple(9, 8), 0);
        Checks.due("STEPS", x.count(6), 24);
        Checks.due("ROUNDS", x.count(7), 2);
        x = Checks.ranOf("c(2). c(1) :- 1 < 2. v(5). v(6). c(# count) :- v(X). d(# count) :- 3 = 3. d(# sum X) :- X is 2 * 3.");
        Checks.dueText("# with FACTS of its LAYER", Checks.allShown(x), "v(5) v(6) d(1) d(6) c(2) c(1)");
        Checks.due("c(2) is a FACT", x.tuple(4, 7), -1);
        StringBuilder many = new StringBuilder("w(X) :- X is 10000 * 10000. h(X,Y) :- w(X), i(Y).");
        many.append("z(# sum X) :- h(X,Y). zz(X) :- z(X), X < 0.");
        for (int k = 0; k < 22; k++) {
            many.append("i(").append(k).append(").");
        }
        x = Checks.ranOf(many.toString());
        Checks.due("a sum wraps", Checks.find(x, "z(0)"), -1);
        int last = x.count(5) - 1;
        Checks.due("22 * 100000000 as an int", x.tuple(last, 0), (int) 2200000000L);
        Checks.dueText("shown", Checks.shown(x, last), "zz(-2094967296)");
    }

    private static void runGoals() {
        RoundReckoner x = Checks.ranOf("e(1,1). e(1,2). e(a,a). e(2,a)."
            + "same(X) :- e(X,X). twin(X,Y) :- e(X,Y), e(Y,X). less(X,Y) :- e(X,_), e(_,Y), X < Y."
            + "eq(X) :- e(X,Y), X = Y. ne(X,Y) :- e(X,Y), X <> Y. one(Y) :- e(1,Y). none(X) :- e(X,Y), !e(Y,_).");
        Checks.dueText("GOALS", Checks.allShown(x), "e(1,1) e(1,2) e(a,a) e(2,a) same(1) same(a) twin(1,1) twin(a,a) "
            + "less(1,2) eq(1) eq(a) ne(1,2) ne(2,a) one(1) one(2)");
        x = Checks.ranOf("v(9999999). v(a). v(10). "
            + "p(Y) :- v(X), Y is X + X. m(Y) :- v(X), Y is 5 - X. t(Y) :- v(X), Y is X * 10. u(Y) :- v(X), Y is X * -11."
            + "b(Y) :- X is 10000 * 10000, Y is X + 0. c(Y) :- X is 10000 * 10000, Y is X + 1."
            + "d(Y) :- X is -10000 * 10000, Y is X - 0. f(Y) :- X is -10000 * 10000, Y is X - 1.");
        Checks.dueText("is", Checks.allShown(x), "v(9999999) v(a) v(10) p(19999998) p(20) m(-9999994) m(-5) t(99999990) "
            + "t(100) u(-110) b(100000000) d(-100000000)");
        x = Checks.ranOf("a(1). a(2). b(1) :- a(X), 1 < 2, X = 2, a <> b, a = a, 3 <> 4. c(1) :- a < 2. c(2) :- 2 < a. c(3) :- a < b.");
        Checks.dueText("VALUES that are CONSTANTS", Checks.allShown(x), "a(1) a(2) b(1)");
        x = Checks.ranOf("p(1,2). p(1,2,3). p(1). q(X) :- p(X,_). r(X) :- p(X,_,_), !p(2), !p(1,3), !p(X,2,2), !p(_,_,4).");
        Checks.dueText("PREDICATES by ARGS", Checks.allShown(x), "p(1,2) p(1,2,3) p(1) q(1) r(1)");
        x = Checks.ranOf("f(1). w(1) :- f(1), !g(X), !h(Y,_). g(1) :- f(2).  h(1,2) :- f(2).");
        Checks.dueText("anything", Checks.allShown(x), "f(1) w(1)");
    }

    private static void runLimits() {
        RoundReckoner x = Checks.toldOf("s(0). s(N) :- s(M), N is M + 1, N < 2000.");
        Checks.due("2000 TUPLES", x.run(), 2000);
        Checks.due("2000 ROUNDS", x.count(7), 2000);
        Checks.due("STEPS of 2000", x.count(6), 2000);
        Checks.tell(x, "s(N) :- s(M), N is M + 1, N < 2001.");
        Checks.dueThrow("2001 TUPLES", INDEX, x::run);
        Checks.due("no TUPLES", x.count(5), 0);
        Checks.dueThrow("no TUPLE", STATE, () -> x.tuple(0, 0));
        Checks.due("STEPS stay", x.count(6), 2000);
        Checks.due("ROUNDS stay", x.count(7), 2000);

        String digits = "d(0). d(1). d(2). d(3). d(4). d(5). d(6). d(7). d(8). d(9).";
        // One such RULE takes 10 + 100 + 1000 + 10000 TUPLES in ROUND 1, 1110 in ROUND 2.
        String four = "n(1) :- d(A), d(B), d(C), d(D), D < 0.";
        RoundReckoner y = Checks.toldOf(digits + four + four + four + four);
        Checks.due("STEPS near the limit", y.run(), 10);
        Checks.due("STEPS", y.count(6), 4 * 11110);
        String three = "n(2) :- d(A), d(B), d(C), A < 0.";
        Checks.tell(y, three + three + three + three + three);
        y.run();
        Checks.due("more STEPS", y.count(6), 4 * 11110 + 5 * 1110);
        String one = "n(3) :- d(A), A < 0.";
        Checks.tell(y, one + "n(4) :- d(0), 1 = 2.");
        Checks.dueThrow("more than 50000 STEPS", ARITHMETIC, y::run);
        Checks.due("no TUPLES then", y.count(5), 0);
        y.drop(y.count(2) - 2);
        y.run();
        Checks.due("STEPS but for one RULE", y.count(6), 49991);
        String each = "n(5) :- d(1), 1 = 2.";
        Checks.tell(y, each + each + each + each + each + each + each + each + each);
        y.run();
        Checks.due("50000 STEPS", y.count(6), 50000);
        Checks.tell(y, each);
        Checks.dueThrow("50001 STEPS", ARITHMETIC, y::run);
        Checks.due("STEPS stay as they were", y.count(6), 50000);

        RoundReckoner most = Checks.toldOf(digits + "h(A,B,C,# count) :- d(A), d(B), d(C), d(D), D < 2.");
        Checks.due("1000 rows", most.run(), 1010);
        String rows = "h(A,B,C,# min N) :- a(A), b(B), c(C), n(N). n(x). g(# min N) :- n(N).";
        RoundReckoner fit = Checks.toldOf(Checks.facts("a", 0, 10) + Checks.facts("b", 0, 10) + Checks.facts("c", 0, 20) + rows);
        Checks.due("2000 rows, none with a number", fit.run(), 41);
        RoundReckoner over = Checks.toldOf(Checks.facts("a", 0, 3) + Checks.facts("b", 0, 23) + Checks.facts("c", 0, 29) + rows);
        Checks.dueThrow("2001 rows", INDEX, over::run);
    }

    private static void tuple() {
        RoundReckoner x = Checks.ranOf("n(b). e(7,a,-3). p(X,Y,b,9) :- e(X,Y,_), n(Z), !n(Y). q(# count) :- p(_,_,_,_).");
        Checks.due("TUPLES", x.count(5), 4);
        long[][] due = {
            {200000000, 300000000, 300000000, 300000000, 0, 0, 0, -1, 0},
            {7, 200000001, -3, 300000000, 1, 0, 0, -1, 0},
            {7, 200000001, 200000000, 9, 2, 1, 1, 0, 2},
            {1, 300000000, 300000000, 300000000, 3, 2, 0, 1, 0}};
        for (int i = 0; i < due.length; i++) {
            for (int what = 0; what <= 8; what++) {
                Checks.due("tuple(" + i + "," + what + ")", x.tuple(i, what), due[i][what]);
            }
        }
        Checks.dueThrow("TUPLE 4", INDEX, () -> x.tuple(4, 0));
        Checks.dueThrow("TUPLE -1", INDEX, () -> x.tuple(-1, 8));
        Checks.dueThrow("TUPLE greatest", INDEX, () -> x.tuple(Integer.MAX_VALUE, 8));
        Checks.dueThrow("what 9", ARGUMENT, () -> x.tuple(0, 9));
        Checks.dueThrow("what -1", ARGUMENT, () -> x.tuple(-1, -1));
        x.drop(0);
        Checks.dueThrow("what 9 without a run", ARGUMENT, () -> x.tuple(0, 9));
        Checks.dueThrow("no run", STATE, () -> x.tuple(9, 0));
        RoundReckoner paths = Checks.ranOf(PATHS);
        Checks.due("ROUND 1", paths.tuple(3, 6), 1);
        Checks.due("ROUND 2", paths.tuple(6, 6), 2);
        Checks.due("ROUND 3", paths.tuple(11, 6), 3);
        Checks.due("RULE 1", paths.tuple(11, 7), 1);
    }

    private static void why() {
        RoundReckoner x = Checks.ranOf(PATHS);
        Checks.due("why p(1,2)", x.why(3, 0), 0);
        Checks.due("why p(1,3)", x.why(6, 0), 3);
        Checks.due("why p(1,3) too", x.why(6, 1), 1);
        Checks.due("why p(3,3)", x.why(11, 0), 8);
        Checks.due("why p(3,3) too", x.why(11, 1), 1);
        Checks.dueThrow("ATOM 1 of one", INDEX, () -> x.why(3, 1));
        Checks.dueThrow("ATOM 2 of two", INDEX, () -> x.why(6, 2));
        Checks.dueThrow("ATOM -1", INDEX, () -> x.why(6, -1));
        Checks.dueThrow("why a FACT", INDEX, () -> x.why(0, 0));
        Checks.dueThrow("TUPLE 12", INDEX, () -> x.why(12, 0));
        Checks.dueThrow("TUPLE -1", INDEX, () -> x.why(-1, 0));
        RoundReckoner one = Checks.ranOf("a(1). a(2). b(2). b(1). c(1) :- 1 < 2, a(X), !a(3), b(Y), X < Y, a(Y). c(# count) :- a(1).");
        Checks.dueText("first WAY", Checks.allShown(one), "a(1) a(2) b(2) b(1) c(1)");
        Checks.due("c(1) came of #", one.tuple(4, 7), 1);
        one.drop(1);
        Checks.dueThrow("no run", STATE, () -> one.why(0, 0));
        one.run();
        Checks.due("ATOMS", one.tuple(4, 8), 3);
        Checks.due("ATOM 0", one.why(4, 0), 0);
        Checks.due("ATOM 1", one.why(4, 1), 2);
        Checks.due("ATOM 2", one.why(4, 2), 1);
    }

    private static void show() {
        RoundReckoner x = Checks.ranOf("z9_(a_b,0,-7,9999999). abcdefghijkl(mnopqrstuvwx,yz0123456789,a00000000000,z___________).");
        Checks.due("show", x.show(0), 21);
        Checks.dueText("OUT", Checks.out(x), "z9_(a_b,0,-7,9999999)");
        Checks.due("show long", x.show(1), 65);
        Checks.dueText("OUT long", Checks.out(x), "abcdefghijkl(mnopqrstuvwx,yz0123456789,a00000000000,z___________)");
        Checks.dueThrow("show 2", INDEX, () -> x.show(2));
        Checks.dueThrow("show -1", INDEX, () -> x.show(-1));
        Checks.due("OUT stays", x.count(1), 65);
        Checks.tell(x, "y(1).");
        Checks.dueThrow("show without a run", STATE, () -> x.show(0));
        Checks.due("OUT stays still", x.count(1), 65);
    }

    private static void find() {
        RoundReckoner x = Checks.ranOf("p(1,a). p(a,1). q(X) :- p(X,_).");
        Checks.due("find", Checks.find(x, "p(a,1)"), 1);
        Checks.due("tape", x.count(0), 0);
        Checks.due("find with blanks", Checks.find(x, "\n q ( 1 ) "), 2);
        Checks.due("find none", Checks.find(x, "p(1,1)"), -1);
        Checks.due("find a new NAME", Checks.find(x, "p(1,new)"), -1);
        Checks.due("NAMES", x.count(9), 2);
        Checks.due("find another PREDICATE", Checks.find(x, "p(1)"), -1);
        Checks.due("PREDICATES", x.count(4), 2);
        Checks.due("find with .", Checks.find(x, "p(a,1)."), -2 - 6);
        Checks.due("find a VARIABLE", Checks.find(x, "p(a,X)x"), -2 - 4);
        Checks.due("find _", Checks.find(x, "p(X,_)"), -2 - 4);
        Checks.due("find nothing", Checks.find(x, "  "), -2 - 2);
        Checks.due("find # ", Checks.find(x, "p(# count)"), -2 - 2);
        Checks.tell(x, "q(7).");
        Checks.put(x, "q(7)");
        Checks.dueThrow("find without a run", STATE, x::find);
        Checks.due("tape then", x.count(0), 0);
        x.run();
        Checks.due("the TAPE was empty", x.find(), -2);
        Checks.due("find q(7)", Checks.find(x, "q(7)"), 2);
    }

    private static void ask() {
        RoundReckoner x = Checks.ranOf(PATHS);
        Checks.due("ask", Checks.ask(x, "p(X,Y), X < Y"), 3);
        Checks.due("tape", x.count(0), 0);
        Checks.due("STEPS", x.count(6), 9);
        Checks.due("ROUNDS", x.count(7), 4);
        Checks.due("ask without ATOMS", Checks.ask(x, "X is 2 + 3, X = 5"), 1);
        Checks.due("no STEPS", x.count(6), 0);
        Checks.due("ask what is not so", Checks.ask(x, "1 = 2"), 0);
        Checks.due("ask !", Checks.ask(x, "e(X,_), !e(_,4), !e(X,3)"), 2);
        Checks.due("ask 8 GOALS", Checks.ask(x, "e(1,A),e(A,B),e(B,C),e(C,D),e(D,E),e(E,F),e(F,G),e(G,H)"), 1);
        Checks.due("ask 8 STEPS", x.count(6), 8);
        Checks.due("ask 9 GOALS", Checks.ask(x, "e(1,_),e(1,_),e(1,_),e(1,_),e(1,_),e(1,_),e(1,_),e(1,_), e(1,_)"), -1 - 57);
        Checks.due("ask with .", Checks.ask(x, "e(1,2)."), -1 - 6);
        Checks.due("ask no PREDICATE", Checks.ask(x, "e(1,2), f(1,2"), -1 - 13);
        Checks.due("ask no PREDICATE to its )", Checks.ask(x, "e(1,2), f(1,2)?"), -1 - 8);
        Checks.due("ask ! no PREDICATE", Checks.ask(x, "! e(1)"), -1 - 2);
        Checks.due("ask nothing", Checks.ask(x, " "), -1 - 1);
        Checks.due("ask a VALUE that is unknown", Checks.ask(x, "e(X,Y), Z < X"), -1 - 8);
        Checks.due("ask ! twice", Checks.ask(x, "e(X,Y), !e(Z,X), !e(X,Z)"), -1 - 11);
        Checks.due("STEPS of the latest that went well", x.count(6), 8);
        Checks.due("TUPLES stay", x.count(5), 12);
        x.drop(1);
        Checks.put(x, "e(1,2)");
        Checks.dueThrow("ask without a run", STATE, x::ask);
        Checks.due("tape then", x.count(0), 0);
    }

    private static void askLimits() {
        RoundReckoner x = Checks.ranOf(Checks.facts("d", 0, 50) + "one(1).");
        Checks.due("ask of 2500", Checks.ask(x, "d(X), d(Y)"), 2500);
        Checks.due("STEPS", x.count(6), 2550);
        Checks.dueThrow("ask too much", ARITHMETIC, () -> Checks.ask(x, "d(X), d(Y), d(Z), d(some) "));
        Checks.due("tape", x.count(0), 0);
        Checks.due("STEPS stay", x.count(6), 2550);
        Checks.due("answers stay", x.answer(51, 1), 1);
        Checks.due("TUPLES stay", x.count(5), 51);
        // 50 + 19 * 50 + 19 * 50 * 50, and 1 * 30 * 50 of one.
        String most = "d(X), X < 19, d(Y), d(Z), X < 1, Y < 30, one(_)";
        Checks.due("ask 50000 STEPS", Checks.ask(x, most), 1500);
        Checks.due("its STEPS", x.count(6), 50000);
        Checks.dueThrow("ask 50001 STEPS", ARITHMETIC, () -> Checks.ask(x, "one(_)," + most));
        Checks.due("STEPS are those of the one ahead", x.count(6), 50000);
    }

    private static void answer() {
        RoundReckoner x = Checks.ranOf("e(a,2). e(3,b). e(-1,a).");
        Checks.ask(x, "e(Y,X), !e(_,Y), !e(Z,77), N is 2 * 4");
        Checks.due("Y of 0", x.answer(0, 0), 3);
        Checks.due("X of 0", x.answer(0, 1), 200000001);
        Checks.due("N of 0", x.answer(0, 3), 8);
        Checks.due("Y of 1", x.answer(1, 0), -1);
        Checks.due("X of 1", x.answer(1, 1), 200000000);
        Checks.dueThrow("Z is not KNOWN", INDEX, () -> x.answer(0, 2));
        Checks.dueThrow("VARIABLE 4", INDEX, () -> x.answer(0, 4));
        Checks.dueThrow("VARIABLE -1", INDEX, () -> x.answer(0, -1));
        Checks.dueThrow("VARIABLE 32", INDEX, () -> x.answer(0, 32));
        Checks.dueThrow("WAY 2", INDEX, () -> x.answer(2, 0));
        Checks.dueThrow("WAY -1", INDEX, () -> x.answer(-1, 0));
        Checks.ask(x, "e(");
        Checks.due("after BROKEN", x.answer(0, 3), 8);
        Checks.untell(x, "e(7,7).");
        Checks.tell(x, "e(a,2).");
        Checks.due("after no change", x.answer(0, 3), 8);
        Checks.due("ask with no WAY", Checks.ask(x, "e(X,X)"), 0);
        Checks.dueThrow("no WAY", INDEX, () -> x.answer(0, 0));
        Checks.ask(x, "e(X,_)");
        x.run();
        Checks.dueThrow("behind a run", INDEX, () -> x.answer(0, 0));
        Checks.ask(x, "e(X,_)");
        Checks.untell(x, "e(a,2).");
        Checks.dueThrow("behind a change", INDEX, () -> x.answer(0, 0));
        x.run();
        Checks.dueThrow("behind a change and a run", INDEX, () -> x.answer(0, 0));
        Checks.ask(x, "1 < 2");
        Checks.dueThrow("a WAY without VARIABLES", INDEX, () -> x.answer(0, 0));
        Checks.tell(x, "s(0). s(N) :- s(M), N is M + 1, N < 150.");
        x.run();
        Checks.due("150 WAYS", Checks.ask(x, "s(N)"), 150);
        Checks.due("WAY 99", x.answer(99, 0), 99);
        Checks.dueThrow("WAY 100", INDEX, () -> x.answer(100, 0));
    }

    private static void layer() {
        RoundReckoner x = Checks.ranOf("a(1). b(X) :- a(X), !c(X). d(# count) :- b(X). e(X) :- d(X), a(X). f(1) :- !e(1), g(1).");
        int[] layers = {0, 1, 0, 2, 2, 3, 0};
        for (int p = 0; p < layers.length; p++) {
            Checks.due("LAYER of " + p, x.layer(p), layers[p]);
        }
        Checks.dueThrow("PREDICATE 7", INDEX, () -> x.layer(7));
        Checks.dueThrow("PREDICATE -1", INDEX, () -> x.layer(-1));
        Checks.due("LAYERS", x.count(8), 4);
        x.drop(0);
        Checks.dueThrow("without a run", STATE, () -> x.layer(0));
        x.run();
        Checks.due("LAYER of d", x.layer(3), 1);
        Checks.due("LAYER of b", x.layer(1), 0);
    }

    private static void word() {
        RoundReckoner x = Checks.ranOf("p(1,2,3,-4).");
        Checks.dueThrow("no OUT", INDEX, () -> x.word(0));
        x.show(0);
        Checks.due("word 0", x.word(0), 0x7028312C322C332CL);
        Checks.due("word 2", x.word(2), 0x312C322C332C2D34L);
        Checks.due("word 10", x.word(10), 0x2900000000000000L);
        Checks.due("word 9", x.word(9), 0x3429000000000000L);
        Checks.dueThrow("word 11", INDEX, () -> x.word(11));
        RoundReckoner y = Checks.ranOf("p(abcdefghijkl). p(1).");
        y.show(0);
        y.show(1);
        Checks.due("zeros behind a shorter text", y.word(0), 0x7028312900000000L);
        Checks.dueThrow("behind the shorter text", INDEX, () -> y.word(4));
        Checks.dueThrow("word -1", INDEX, () -> x.word(-1));
        Checks.dueThrow("word greatest", INDEX, () -> x.word(Integer.MAX_VALUE));
        Checks.dueThrow("word least", INDEX, () -> x.word(Integer.MIN_VALUE));
    }

    private static void count() {
        RoundReckoner x = Checks.ranOf("p(a). q(X) :- p(X), !r(X,b). s(# count) :- q(_).");
        x.show(0);
        x.feed(0, 0, 0, 0, 0);
        int[] counts = {20, 4, 2, 1, 4, 3, 2, 4, 3, 2};
        for (int what = 0; what < counts.length; what++) {
            Checks.due("count " + what, x.count(what), counts[what]);
        }
        Checks.dueThrow("count 10", ARGUMENT, () -> x.count(10));
        Checks.dueThrow("count -1", ARGUMENT, () -> x.count(-1));
        Checks.dueThrow("count greatest", ARGUMENT, () -> x.count(Integer.MAX_VALUE));
    }
}
