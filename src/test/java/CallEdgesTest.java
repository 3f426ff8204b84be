/** Each promise at its edges: the first and the last that may be, what is refused, and what a refused call leaves as it was. */
public final class CallEdgesTest {
    private static final Class<?> STATE = IllegalStateException.class;
    private static final Class<?> ARGUMENT = IllegalArgumentException.class;
    private static final Class<?> INDEX = IndexOutOfBoundsException.class;
    private static final Class<?> ARITHMETIC = ArithmeticException.class;
    private static final Class<?> UNSUPPORTED = UnsupportedOperationException.class;

    private static final int LEAST = Integer.MIN_VALUE;
    private static final int GREATEST = Integer.MAX_VALUE;
    private static final String TEXT = "p(1). p(a). q(X) :- p(X), !r(X). s(# count) :- q(_).";

    private interface Use {
        void on(RoundReckoner x);
    }

    private CallEdgesTest() {
    }

    public static void main(String[] args) {
        newObject();
        feedBytes();
        feedFull();
        end();
        cutOff();
        tapeLeftEmpty();
        tellBehind();
        tellBroken();
        untell();
        untellRefused();
        drop();
        dropRefused();
        runAnew();
        runRefused();
        changesOfClauses();
        noChanges();
        tupleAspects();
        tupleRefused();
        namesAsFirstRead();
        manyNames();
        predicatesAsFirstRead();
        why();
        show();
        find();
        findRefused();
        ask();
        askRefused();
        answer();
        answersGo();
        layer();
        word();
        counts();
        countsWithoutARun();
        orderOfExceptions();
        Checks.finish("CallEdgesTest");
    }

    /** An object with CLAUSES, a run, an OUT, and answers. */
    private static RoundReckoner full() {
        RoundReckoner x = Checks.ranOf(TEXT);
        x.show(1);
        Checks.ask(x, "p(X), q(Y)");
        return x;
    }

    /** All that the object shows is the same behind the call, but THE TAPE may be empty. */
    private static void leaves(String what, RoundReckoner x, Use call) {
        String before = Checks.state(x);
        call.on(x);
        Checks.dueText("what " + what + " leaves", Checks.state(x), before);
    }

    /** The call throws this, and THE TAPE'S length is then as told. */
    private static void refused(String what, Class<?> want, RoundReckoner x, int tapeThen, Checks.Call call) {
        leaves(what, x, y -> Checks.dueThrow(what, want, call));
        Checks.due("TAPE behind " + what, x.count(0), tapeThen);
    }

    private static void newObject() {
        RoundReckoner x = new RoundReckoner();
        Checks.dueText("new", Checks.state(x).replace("IllegalState", "S").replace("IndexOutOfBounds", "I"),
            "0 0 0 0 0 0 0 0 0 [] " + Checks.times(9, "S ") + "S S S S " + Checks.times(12, "I "));
        Checks.due("its TAPE", x.count(0), 0);
        RoundReckoner y = full();
        Checks.due("one object has nothing of another", new RoundReckoner().count(3), 0);
        Checks.due("nor takes of it", y.count(3), 2);
    }

    /** "The 20 bytes of five ints, the highest of each first, come to THE TAPE". */
    private static void feedBytes() {
        RoundReckoner x = new RoundReckoner();
        Checks.due("feed", x.feed(0x6162635F, 0x30393828, 0x2D313233, 0x34353637, 0x29202E0A), 20);
        Checks.due("tell", x.tell(), 1);
        x.run();
        Checks.dueText("as it was fed", Checks.shown(x, 0), "abc_098(-1234567)");
        int[] fed = {0x65283129, 0x2E202020, 0x20202020, 0x20202020, 0x20202020};
        // A byte of 255 or 128 at each of the twenty places is BROKEN there.
        for (int at = 5; at < 20; at++) {
            for (int wrong : new int[] {255, 128}) {
                int[] f = fed.clone();
                int shift = 24 - at % 4 * 8;
                f[at / 4] = f[at / 4] & ~(255 << shift) | wrong << shift;
                x.feed(f[0], f[1], f[2], f[3], f[4]);
                Checks.due("byte " + wrong + " at " + at, x.tell(), -1 - at);
            }
        }
    }

    /** "it would have more than 2000: IndexOutOfBoundsException. Answers its length." */
    private static void feedFull() {
        RoundReckoner x = new RoundReckoner();
        for (int k = 1; k <= 100; k++) {
            Checks.due("feed " + k, x.feed(0x20202020, 0x20202020, 0x20202020, 0x20202020, k == 100 ? 0x6628312E : 0x20202020), 20 * k);
        }
        refused("feed of 2020", INDEX, x, 2000, () -> x.feed(0, 0, 0, 0, 0));
        for (int length = 1999; length > 1980; length -= 6) {
            x.end(length);
            Checks.dueThrow("feed of " + (length + 20), INDEX, () -> x.feed(0, 0, 0, 0, 0));
            Checks.due("length behind it", x.count(0), length);
        }
        x.end(1980);
        Checks.due("feed of 2000", x.feed(0x20202020, 0x20202020, 0x20202020, 0x20202020, 0x6728312E), 2000);
        refused("feed more", INDEX, x, 2000, () -> x.feed(-1, -1, -1, -1, -1));
        Checks.due("its bytes are those that were fed", x.tell(), -1 - 1999);
        Checks.due("empty", x.feed(0x66283129, 0x2E202020, 0x20202020, 0x20202020, 0x20202020), 20);
        Checks.due("told from the first byte on", x.tell(), 1);
    }

    /** "THE TAPE keeps its first n bytes, n 0 .. its length. Answers n." */
    private static void end() {
        for (int n : new int[] {21, 2000, -1, LEAST, GREATEST}) {
            RoundReckoner y = full();
            y.feed(0, 0, 0, 0, 0);
            refused("end " + n, ARGUMENT, y, 20, () -> y.end(n));
        }
        RoundReckoner x = full();
        Checks.dueThrow("end 1 of nothing", ARGUMENT, () -> x.end(1));
        Checks.due("end 0 of nothing", x.end(0), 0);
        Checks.put(x, "t(7). t(8).         ");
        Checks.due("length", x.count(0), 20);
        Checks.dueThrow("end 21", ARGUMENT, () -> x.end(21));
        Checks.due("end 20", x.end(20), 20);
        Checks.due("end 5", x.end(5), 5);
        Checks.dueThrow("end 6 of 5", ARGUMENT, () -> x.end(6));
        x.feed(0x74283929, 0x2E202020, 0x20202020, 0x20202020, 0x20202020);
        Checks.due("kept the first", x.tell(), 2);
        x.run();
        Checks.due("t(7)", Checks.find(x, "t(7)") < 0 ? 0 : 1, 1);
        Checks.due("t(8)", Checks.find(x, "t(8)"), -1);
        Checks.due("t(9)", Checks.find(x, "t(9)") < 0 ? 0 : 1, 1);
        x.feed(0, 0, 0, 0, 0);
        Checks.due("end 0", x.end(0), 0);
        Checks.due("nothing told", x.tell(), 0);
    }

    /** What lies behind the end is none of the text, wherever it is cut. */
    private static void cutOff() {
        String text = "p(a1,-1,# sum Xy) :- e(Xy,_), !f(-12), Xy <> 3, Z is Xy - -4. q(1). ";
        for (int n = 0; n <= text.length(); n++) {
            RoundReckoner cut = new RoundReckoner();
            Checks.put(cut, text);
            cut.end(n);
            RoundReckoner whole = new RoundReckoner();
            Checks.put(whole, text.substring(0, n));
            Checks.due("cut at " + n, cut.tell(), whole.tell());
            Checks.due("NAMES of it", cut.count(9), whole.count(9));
        }
        String sign = "1 <> 2";
        RoundReckoner x = full();
        Checks.put(x, sign);
        x.end(3);
        Checks.due("the > cut off", x.ask(), -1 - 3);
        Checks.put(x, "p(1) :- q(1).");
        x.end(6);
        Checks.due("the - cut off", x.tell(), -1 - 6);
        Checks.put(x, "p(12)");
        x.end(3);
        Checks.due("a digit cut off", x.find(), -2 - 3);
    }

    /** "a call that reads THE TAPE leaves it empty, whatever it answers". */
    private static void tapeLeftEmpty() {
        String[][] calls = {{"tell", "t(1)."}, {"tell", "?"}, {"tell", " "}, {"tell", "p(1)."}, {"tell", "p(X)."}, {"untell", "p(1)."},
            {"untell", "p(7)."}, {"untell", "p("}, {"untell", "p(1). x"}, {"find", "p(1)"}, {"find", "p(7)"}, {"find", "p"}, {"find", "p(1)."},
            {"ask", "p(X)"}, {"ask", "p(7)"}, {"ask", "zz(7)"}, {"ask", "p(X),"}};
        for (String[] call : calls) {
            for (boolean ran : new boolean[] {true, false}) {
                RoundReckoner x = ran ? full() : Checks.toldOf(TEXT);
                Checks.put(x, call[1]);
                Checks.said(() -> read(x, call[0]));
                Checks.due("TAPE behind " + call[0] + " " + call[1], x.count(0), 0);
                Checks.due("fed behind " + call[0], x.feed(0x20202020, 0x20202020, 0x20202020, 0x20202020, 0x20202020), 20);
                Checks.due("told behind " + call[0], x.tell(), 0);
            }
        }
        RoundReckoner x = Checks.ranOf(Checks.facts("d", 0, 40));
        Checks.put(x, "d(X), d(Y), d(Z)");
        Checks.dueThrow("ask too much", ARITHMETIC, x::ask);
        Checks.due("TAPE behind it", x.count(0), 0);
        Checks.put(x, "d(77).");
        x.run();
        x.show(0);
        x.word(0);
        x.layer(0);
        x.tuple(0, 0);
        Checks.said(() -> x.drop(0));
        Checks.said(() -> x.answer(0, 0));
        Checks.said(() -> x.why(0, 0));
        Checks.due("other calls leave it", x.count(0), 6);
        Checks.due("as it was", x.tell(), 1);
    }

    private static int read(RoundReckoner x, String call) {
        switch (call) {
            case "tell":
                return x.tell();
            case "untell":
                return x.untell();
            case "find":
                return x.find();
            default:
                return x.ask();
        }
    }

    /** "its CLAUSES come behind those that are there. Answers how many CLAUSES it told". */
    private static void tellBehind() {
        RoundReckoner x = new RoundReckoner();
        Checks.due("nothing", x.tell(), 0);
        Checks.due("one", Checks.tell(x, "b(1)."), 1);
        Checks.due("two", Checks.tell(x, "c(X) :- b(X). a(1)."), 2);
        Checks.due("three", Checks.tell(x, "c(7) :- b(1). b(0). c(X) :- a(X)."), 3);
        Checks.due("RULES", x.count(2), 3);
        Checks.due("FACTS", x.count(3), 3);
        x.run();
        Checks.dueText("FACTS in order", Checks.allShown(x), "b(1) a(1) b(0) c(1) c(0) c(7)");
        Checks.due("c(7)'s RULE", x.tuple(5, 7), 1);
        Checks.due("as many as the TAPE holds", Checks.tell(new RoundReckoner(), Checks.times(400, "b(1).")), 400);
    }

    /** "BROKEN: -1 - PLACE (none of them comes)". */
    private static void tellBroken() {
        for (String marked : new String[] {"^?", "p(9). t(1). u(X) :- p(X), t(X). ^?", "t(1^", "p(2) :- p(1). p(^X).", "p(9).^.", "t(1) :-^"}) {
            RoundReckoner x = full();
            Checks.put(x, Checks.unmarked(marked));
            leaves("BROKEN " + marked, x, y -> Checks.due(marked, y.tell(), -1 - Checks.place(marked)));
        }
        RoundReckoner part = Checks.toldOf("p(1).");
        Checks.tell(part, "q(X,X,X,X) :- p(X), !q(X,X,X,X), ?");
        Checks.tell(part, "q(X) :- p(X).");
        Checks.due("nothing of a BROKEN RULE is in the next", part.run(), 2);
        Checks.due("its TUPLE", Checks.find(part, "q(1)"), 1);
        RoundReckoner x = full();
        Checks.tell(x, "t(1). t(b,c) :- p(1). u(c). ?");
        Checks.due("NAMES of BROKEN texts", x.count(9), 3);
        Checks.due("nothing else", x.count(2) * 100 + x.count(3) * 10 + x.count(4), 224);
        Checks.due("told behind it", Checks.tell(x, "u(1). t(1)."), 2);
        x.run();
        Checks.due("u is the next PREDICATE", x.tuple(Checks.find(x, "u(1)"), 4), 4);
        Checks.due("t the one behind", x.tuple(Checks.find(x, "t(1)"), 4), 5);
    }

    /** "THE TAPE is a FACT, with its . : it is told no more. Answers 1, 0 if it was not". */
    private static void untell() {
        RoundReckoner x = Checks.toldOf("p(1). p(a). p(-1). p(1,1). p(2). q(X) :- p(X).");
        Checks.due("the first", Checks.untell(x, "p(1)."), 1);
        Checks.due("again", Checks.untell(x, "p(1)."), 0);
        Checks.due("the last", Checks.untell(x, " p ( 0002 ) \n. "), 1);
        Checks.due("with other ARGS", Checks.untell(x, "p(1,1,1)."), 0);
        Checks.due("the NAME", Checks.untell(x, "p(a)."), 1);
        Checks.due("what follows alone", Checks.untell(x, "q(-1)."), 0);
        Checks.due("FACTS", x.count(3), 2);
        x.run();
        Checks.dueText("left", Checks.allShown(x), "p(-1) p(1,1) q(-1)");
        Checks.due("all but one", Checks.untell(x, "p(1,1)."), 1);
        Checks.due("all", Checks.untell(x, "p(-1)."), 1);
        Checks.due("no FACTS", x.count(3), 0);
        Checks.due("of none", Checks.untell(x, "p(-1)."), 0);
        Checks.due("RULES stay", x.count(2), 1);
        Checks.due("run", x.run(), 0);
    }

    /** "BROKEN, or something behind it: -1 - PLACE". */
    private static void untellRefused() {
        for (String marked : new String[] {"^", " ^", "^?", "p^", "p(1)^", "p(1) ^", "p(1). ^p(a).", "p(1).^.", "p(1). \n^?", "p(^X).", "p(1,^X).",
            "p(^_).", "p(^# count).", "p(1) ^:- p(1).", "q(X) ^:- p(X), !r(X).", "^!p(1).", "p(1,2,3,4,^5).", "p(^12345678).", "^P(1)."}) {
            RoundReckoner x = full();
            Checks.put(x, Checks.unmarked(marked));
            leaves("untell " + marked, x, y -> Checks.due("untell " + marked, y.untell(), -1 - Checks.place(marked)));
        }
        RoundReckoner x = full();
        for (int b = 0; b < 256; b++) {
            int due = b == 10 || b == 32 ? 1 : -6;
            Checks.due("untell, byte " + b + " behind", Checks.untell(Checks.toldOf("p(1)."), "p(1)." + (char) b), due);
        }
        Checks.put(x, "p(2).");
        leaves("untell of none", x, y -> Checks.due("untell of none", y.untell(), 0));
        Checks.put(x, "t(2,3).");
        leaves("untell of no PREDICATE", x, y -> Checks.due("untell of no PREDICATE", y.untell(), 0));
    }

    /** "RULE r (from 0) goes; those behind it are one less. .. Answers how many are left." */
    private static void drop() {
        String rules = "p(1). a(X) :- p(X). b(X) :- p(X). c(X) :- p(X). d(X) :- p(X).";
        String[] left = {"p(1) b(1) c(1) d(1)", "p(1) a(1) c(1) d(1)", "p(1) a(1) b(1) d(1)", "p(1) a(1) b(1) c(1)"};
        for (int r = 0; r < 4; r++) {
            RoundReckoner x = Checks.ranOf(rules);
            Checks.due("drop " + r, x.drop(r), 3);
            Checks.due("RULES behind drop " + r, x.count(2), 3);
            x.run();
            Checks.dueText("left of drop " + r, Checks.allShown(x), left[r]);
            for (int k = 0; k < 3; k++) {
                Checks.due("RULE numbers behind drop " + r, x.tuple(k + 1, 7), k);
            }
            Checks.due("FACTS stay", x.count(3), 1);
            Checks.due("told behind", Checks.tell(x, "e(X) :- p(X)."), 1);
            x.run();
            Checks.due("its number", x.tuple(4, 7), 3);
        }
        RoundReckoner shorter = Checks.toldOf("p(1). w(X,X,X,X) :- p(X), p(X), !w(X,X,X,X).");
        shorter.drop(0);
        Checks.tell(shorter, "v(X) :- p(X).");
        Checks.due("a shorter RULE where a longer one stood", shorter.run(), 2);
        Checks.due("its TUPLE", Checks.find(shorter, "v(1)"), 1);
        Checks.due("its ATOMS", shorter.tuple(1, 8), 1);
        RoundReckoner x = Checks.ranOf(rules);
        for (int k = 3; k >= 0; k--) {
            Checks.due("drop the first", x.drop(0), k);
        }
        Checks.due("FACTS alone", x.run(), 1);
    }

    /** "There is none: IndexOutOfBoundsException." */
    private static void dropRefused() {
        RoundReckoner x = full();
        for (int r : new int[] {2, 3, 60, -1, LEAST, GREATEST}) {
            RoundReckoner y = full();
            refused("drop " + r, INDEX, y, 0, () -> y.drop(r));
        }
        x.drop(1);
        Checks.dueThrow("drop 1 of one", INDEX, () -> x.drop(1));
        x.drop(0);
        Checks.dueThrow("drop 0 of none", INDEX, () -> x.drop(0));
    }

    /** "Works out all TUPLES anew. Answers how many." */
    private static void runAnew() {
        RoundReckoner x = new RoundReckoner();
        Checks.due("run of nothing", x.run(), 0);
        Checks.tell(x, TEXT);
        Checks.due("run", x.run(), 5);
        x.show(1);
        leaves("a run again", x, y -> Checks.due("run again", y.run(), 5));
        Checks.untell(x, "p(a).");
        Checks.due("run with less", x.run(), 3);
        Checks.dueText("TUPLES", Checks.allShown(x), "p(1) q(1) s(1)");
        Checks.tell(x, "r(1).");
        Checks.due("run with what is not so any more", x.run(), 2);
        Checks.dueText("TUPLES then", Checks.allShown(x), "p(1) r(1)");
        // TUPLE 1 was one of a RULE, then of # , then a FACT: nothing of an earlier run stays.
        RoundReckoner y = Checks.ranOf("p(1). q(X) :- p(X), p(X).");
        Checks.due("ATOMS of TUPLE 1", y.tuple(1, 8), 2);
        y.drop(0);
        Checks.tell(y, "q(# count) :- p(_).");
        y.run();
        Checks.due("of #", y.tuple(1, 8), 0);
        Checks.dueThrow("why of #", INDEX, () -> y.why(1, 0));
        Checks.due("its RULE", y.tuple(1, 7), 0);
        y.drop(0);
        Checks.tell(y, "q(X) :- p(X), p(X).");
        y.run();
        Checks.tell(y, "q(7,7).");
        y.run();
        Checks.due("ATOMS of a FACT", y.tuple(1, 8), 0);
        Checks.due("ARG of a FACT", y.tuple(1, 1), 7);
        Checks.dueThrow("why of a FACT", INDEX, () -> y.why(1, 0));
        Checks.due("no ARG of the one that stood there", y.tuple(2, 1), 300000000);
    }

    /** A run that throws leaves no TUPLES, and all else as it was. */
    private static void runRefused() {
        String[][] texts = {{"p(7) :- !p(8).", "U"}, {"n(N) :- n(M), N is M + 1. n(0).", "I"},
            {"d(X) :- d(Y), X is Y + 1, X < 40. d(0). n(1) :- d(A), d(B), d(C), A < 0.", "A"}};
        Class<?>[] thrown = {UNSUPPORTED, INDEX, ARITHMETIC};
        for (int k = 0; k < 3; k++) {
            RoundReckoner x = full();
            Checks.tell(x, texts[k][0]);
            refused("run " + texts[k][1], thrown[k], x, 0, x::run);
            refused("run again " + texts[k][1], thrown[k], x, 0, x::run);
            RoundReckoner y = full();
            Checks.tell(y, texts[k][0]);
            Checks.dueThrow("run", thrown[k], y::run);
            Checks.due("no TUPLES", y.count(5), 0);
            Checks.due("no LAYERS", y.count(8), 0);
            // The ask of full() took p 2, and q 2 for each of them.
            Checks.due("STEPS of what went well", y.count(6), 6);
            Checks.due("ROUNDS of what went well", y.count(7), 1 + 2 + 1);
            for (int r = y.count(2); r > 2; r--) {
                y.drop(2);
            }
            Checks.due("well again", y.run(), k == 0 ? 5 : 6);
        }
    }

    /** "no run went well since the last change of CLAUSES": each call that changes them. */
    private static void changesOfClauses() {
        Use[] changes = {x -> Checks.tell(x, "p(2)."), x -> Checks.tell(x, "q(X) :- p(X)."), x -> Checks.tell(x, "p(1). p(1). r(3)."),
            x -> Checks.untell(x, "p(1)."), x -> x.drop(0), x -> x.drop(1)};
        for (int k = 0; k < changes.length; k++) {
            RoundReckoner x = full();
            changes[k].on(x);
            String what = " behind change " + k;
            Checks.dueThrow("tuple" + what, STATE, () -> x.tuple(0, 0));
            Checks.dueThrow("why" + what, STATE, () -> x.why(2, 0));
            Checks.dueThrow("show" + what, STATE, () -> x.show(0));
            Checks.dueThrow("find" + what, STATE, () -> Checks.find(x, "p(1)"));
            Checks.dueThrow("ask" + what, STATE, () -> Checks.ask(x, "p(X)"));
            Checks.dueThrow("answer" + what, INDEX, () -> x.answer(0, 0));
            Checks.dueThrow("layer" + what, STATE, () -> x.layer(0));
            Checks.due("TUPLES" + what, x.count(5), 0);
            Checks.due("LAYERS" + what, x.count(8), 0);
            Checks.dueText("OUT" + what, Checks.out(x), "p(a)");
            x.run();
            Checks.due("with a run" + what, x.tuple(0, 4), 0);
            Checks.due("LAYERS with a run" + what, x.count(8) > 0 ? 1 : 0, 1);
        }
    }

    /** What changes no CLAUSES leaves the run, and the answers, as they were. */
    private static void noChanges() {
        Use[] others = {x -> Checks.tell(x, ""), x -> Checks.tell(x, " \n"), x -> Checks.tell(x, "p(2)"), x -> Checks.tell(x, "p(1). p(a)."),
            x -> Checks.untell(x, "p(2)."), x -> Checks.untell(x, "p(1)"), x -> Checks.said(() -> x.drop(2)), x -> Checks.find(x, "p(1)"),
            x -> Checks.find(x, "p("), x -> Checks.ask(x, "p(X)x"), x -> x.count(3), x -> Checks.said(() -> x.tuple(9, 9))};
        for (int k = 0; k < others.length; k++) {
            leaves("no change " + k, full(), others[k]);
        }
    }

    /** tuple: "what 0 .. 3: that ARG .. none such: 300000000; 4 .. 8". */
    private static void tupleAspects() {
        RoundReckoner x = Checks.ranOf("e(-9999999,b,9999999,a). e(1). e(1,2). e(1,2,b). "
            + "f(Y,X) :- e(X), e(X,Y), !e(Y), e(X,Y,Z), Y = 2. g(f,# sum X) :- f(X,_). h(1) :- !g(1,2).");
        long[][] due = {
            {-9999999, 200000000, 9999999, 200000001, 0, 0, 0, -1, 0},
            {1, 300000000, 300000000, 300000000, 1, 0, 0, -1, 0},
            {1, 2, 300000000, 300000000, 2, 0, 0, -1, 0},
            {1, 2, 200000000, 300000000, 3, 0, 0, -1, 0},
            {2, 1, 300000000, 300000000, 4, 1, 1, 0, 3},
            {200000002, 2, 300000000, 300000000, 5, 2, 0, 1, 0},
            {1, 300000000, 300000000, 300000000, 6, 3, 1, 2, 0}};
        Checks.due("TUPLES", x.count(5), due.length);
        for (int i = 0; i < due.length; i++) {
            for (int what = 0; what <= 8; what++) {
                Checks.due("tuple(" + i + "," + what + ")", x.tuple(i, what), due[i][what]);
            }
        }
        RoundReckoner eight = Checks.ranOf("n(1). n(2). m(1) :- n(A), n(B), n(C), n(D), n(E), n(F), n(G), n(H).");
        Checks.due("8 ATOMS", eight.tuple(2, 8), 8);
    }

    /** tuple: "(there is none: IndexOutOfBoundsException)", and a what out of range. */
    private static void tupleRefused() {
        for (int i : new int[] {5, 6, 2000, -1, LEAST, GREATEST}) {
            RoundReckoner x = full();
            refused("tuple " + i, INDEX, x, 0, () -> x.tuple(i, 0));
            Checks.dueThrow("tuple " + i + ", 8", INDEX, () -> x.tuple(i, 8));
        }
        for (int what : new int[] {9, 10, -1, LEAST, GREATEST}) {
            RoundReckoner x = full();
            refused("what " + what, ARGUMENT, x, 0, () -> x.tuple(0, what));
        }
        RoundReckoner none = new RoundReckoner();
        none.run();
        Checks.dueThrow("TUPLE 0 of none", INDEX, () -> none.tuple(0, 0));
    }

    /** "its number (from 0, as NAMES of CONSTANTS were first read, over all texts, broken ones too)". */
    private static void namesAsFirstRead() {
        RoundReckoner x = new RoundReckoner();
        Checks.due("no NAMES", x.count(9), 0);
        Checks.tell(x, "p(c0, c1) ?");
        Checks.untell(x, "p(c1,c2");
        x.run();
        Checks.find(x, "zz(c3,c0).");
        Checks.ask(x, "c4 = c4, c5 < 1, X is c6 + c7, zz(c8)");
        Checks.tell(x, "q(X) :- r(X,c9), !r(c10), X <> c11, c12 = X, Y is X - c13.");
        Checks.tell(x, "s(c14,# count) :- q(X). t(c14). t(X) :- q(X).");
        Checks.due("NAMES", x.count(9), 15);
        Checks.tell(x, "t(c13). t(c9). t(c5). t(c0). t(c8).");
        x.run();
        int[] numbers = {14, 13, 9, 5, 0, 8};
        for (int i = 0; i < numbers.length; i++) {
            Checks.due("NAME of TUPLE " + i, x.tuple(i, 0), 200000000 + numbers[i]);
        }
        Checks.due("no PREDICATE'S NAME, nor #'s word, nor VARIABLE", x.count(9), 15);
        Checks.untell(x, "t(c13).");
        Checks.tell(x, "t(c13). t(d).");
        x.run();
        Checks.due("a NAME keeps its number", x.tuple(5, 0), 200000013);
        Checks.due("the next", x.tuple(6, 0), 200000015);
    }

    /** As many NAMES as FACTS can hold. */
    private static void manyNames() {
        RoundReckoner x = new RoundReckoner();
        StringBuilder text = new StringBuilder();
        for (int f = 0; f < 400; f++) {
            text.append("p(");
            for (int k = 0; k < 4; k++) {
                text.append(name(f * 4 + k)).append(k < 3 ? "," : ").");
            }
            if (f % 100 == 99) {
                Checks.due("FACTS", Checks.tell(x, text.toString()), 100);
                text.setLength(0);
            }
        }
        Checks.due("NAMES", x.count(9), 1600);
        Checks.due("TUPLES", x.run(), 400);
        Checks.due("the first NAME", x.tuple(0, 0), 200000000);
        Checks.due("the last NAME", x.tuple(399, 3), 200001599);
        String last = "p(" + name(1596) + "," + name(1597) + "," + name(1598) + "," + name(1599) + ")";
        Checks.dueText("shown", Checks.shown(x, 399), last);
        Checks.due("found", Checks.find(x, last), 399);
    }

    private static char letter(int symbol) {
        return "abcdefghijklmnopqrstuvwxyz0123456789_".charAt(symbol);
    }

    private static String name(int number) {
        return "" + (char) ('a' + number / 1369) + letter(number / 37 % 37) + letter(number % 37);
    }

    /** "4 its PREDICATE (from 0, as tell first read them in texts that were not BROKEN)". */
    private static void predicatesAsFirstRead() {
        RoundReckoner x = new RoundReckoner();
        Checks.tell(x, "z(1). y(2) ?");
        Checks.untell(x, "x(1).");
        x.run();
        Checks.find(x, "w(1)");
        Checks.ask(x, "v(1)");
        Checks.due("none yet", x.count(4), 0);
        Checks.tell(x, "c(1) :- b(1), !a(1), b(1,2). a(2). c(1). b(1). b(1,2). z(1).");
        Checks.due("PREDICATES", x.count(4), 5);
        x.run();
        String[] finds = {"c(1)", "b(1)", "a(2)", "b(1,2)", "z(1)"};
        for (int p = 0; p < finds.length; p++) {
            Checks.due("PREDICATE of " + finds[p], x.tuple(Checks.find(x, finds[p]), 4), p);
        }
        x.drop(0);
        Checks.untell(x, "a(2).");
        Checks.tell(x, "a(5,5). a(6).");
        x.run();
        Checks.due("a keeps its number", x.tuple(Checks.find(x, "a(6)"), 4), 2);
        Checks.due("a with two ARGS is the next", x.tuple(Checks.find(x, "a(5,5)"), 4), 5);
    }

    /** why: "The TUPLE that the k-th ATOM (from 0) of the first WAY of TUPLE i took; there is none: IndexOutOfBoundsException." */
    private static void why() {
        RoundReckoner x = Checks.ranOf("n(1). n(2). m(8) :- 1 = 1, n(A), !k(1), n(B), A < B, n(C), n(D), n(B). s(# count) :- n(X). "
            + "o(1) :- n(A), n(B), n(C), n(D), n(E), n(F), n(G), n(2). z(1) :- 1 = 1.");
        int m = Checks.find(x, "m(8)");
        int o = Checks.find(x, "o(1)");
        int[] took = {0, 1, 0, 0, 1};
        for (int k = 0; k < 5; k++) {
            Checks.due("why m " + k, x.why(m, k), took[k]);
        }
        for (int k = 0; k < 8; k++) {
            Checks.due("why o " + k, x.why(o, k), k == 7 ? 1 : 0);
        }
        int[][] none = {{m, 5}, {m, -1}, {m, LEAST}, {m, GREATEST}, {o, 8}, {o, 9}, {0, 0}, {Checks.find(x, "s(2)"), 0}, {Checks.find(x, "z(1)"), 0},
            {x.count(5), 0}, {-1, 0}, {LEAST, 0}, {GREATEST, 0}, {GREATEST, GREATEST}};
        for (int[] one : none) {
            Checks.dueThrow("why(" + one[0] + "," + one[1] + ")", INDEX, () -> x.why(one[0], one[1]));
        }
        RoundReckoner y = full();
        refused("why of none", INDEX, y, 0, () -> y.why(5, 0));
    }

    /** show: "OUT is TUPLE i as a text, NAME(ARG,..). Answers how many bytes." */
    private static void show() {
        String longest = "abcdefghijkl(mnopqrstuvwx,yz0123456789,a_a_a_a_a_a_,zzzzzzzzzzzz)";
        RoundReckoner x = Checks.ranOf(longest + ". a(0). a(-0001,z,-9999999,9999999). b(10,100).");
        String[] texts = {longest, "a(0)", "a(-1,z,-9999999,9999999)", "b(10,100)"};
        for (int i : new int[] {0, 1, 2, 3, 0}) {
            Checks.due("show " + i, x.show(i), texts[i].length());
            Checks.due("bytes of OUT", x.count(1), texts[i].length());
            Checks.dueText("OUT", Checks.out(x), texts[i]);
        }
        for (int i : new int[] {5, 6, -1, LEAST, GREATEST}) {
            RoundReckoner y = full();
            refused("show " + i, INDEX, y, 0, () -> y.show(i));
        }
        RoundReckoner y = full();
        Checks.tell(y, "p(5).");
        refused("show without a run", STATE, y, 0, () -> y.show(0));
        Checks.dueText("OUT stays", Checks.out(y), "p(a)");
    }

    /** find: "THE TAPE is a FACT without . : its TUPLE'S number; -1 if it is none; BROKEN: -2 - PLACE." */
    private static void find() {
        RoundReckoner x = full();
        String[][] finds = {{"p(1)", "0"}, {" p\n( 001 ) ", "0"}, {"p(a)", "1"}, {"q(1)", "2"}, {"q(a)", "3"}, {"s(2)", "4"}, {"s(1)", "-1"},
            {"p(2)", "-1"}, {"p(1,1)", "-1"}, {"r(1)", "-1"}, {"new(1)", "-1"}, {"p(b)", "-1"}, {"p(-1)", "-1"}};
        for (String[] one : finds) {
            Checks.due("find " + one[0], Checks.find(x, one[0]), Integer.parseInt(one[1]));
        }
        Checks.due("PREDICATES stay", x.count(4), 4);
        RoundReckoner none = new RoundReckoner();
        none.run();
        Checks.due("find of nothing", Checks.find(none, "p(1)"), -1);
    }

    private static void findRefused() {
        for (String marked : new String[] {
            "^", " \n^", "^?", "p^", "p(^", "p(1^", "p(1,^", "p(1)^.", "p(1) ^p(1)", "p(1)^,", "p(1)^?", "p(^X)", "p(1,^X)",
            "p(^_)", "p(^# count)", "p(1,^# sum X)", "p(1,2,3,4,^5)", "p(^12345678)", "p(^-)", "^P(1)", "^!p(1)", "^1 = 1",
            "p ^= 1", "^abcdefghijklm(1)", "p(1) ^:- p(1)."}) {
            RoundReckoner x = full();
            Checks.put(x, Checks.unmarked(marked));
            leaves("find " + marked, x, y -> Checks.due("find " + marked, y.find(), -2 - Checks.place(marked)));
        }
        for (int b = 0; b < 256; b++) {
            Checks.due("find, byte " + b + " behind", Checks.find(full(), "p(a)" + (char) b), b == 10 || b == 32 ? 1 : -6);
        }
        RoundReckoner x = Checks.toldOf(TEXT);
        Checks.put(x, "p(new)");
        refused("find without a run", STATE, x, 0, x::find);
        Checks.put(x, "?");
        refused("BROKEN find without a run", STATE, x, 0, x::find);
    }

    /** ask: "THE TAPE is GOALS .. asked of all TUPLES: how many WAYS". */
    private static void ask() {
        RoundReckoner x = full();
        String[][] asked = {{"p(X)", "2"}, {"q(X), p(X)", "2"}, {"q(X), p(Y)", "4"}, {"s(X), X < 3", "1"}, {"s(X), X < 2", "0"}, {"r(X)", "0"},
            {"!r(X)", "1"}, {"1 = 1", "1"}, {"X is 1 + a", "0"}, {" p ( X ) \n", "2"}, {"p(_), p(_), p(_), p(_), p(_), p(_), p(_), p(_)", "256"}};
        for (String[] one : asked) {
            Checks.due("ask " + one[0], Checks.ask(x, one[0]), Integer.parseInt(one[1]));
        }
        Checks.due("more WAYS than are kept", Checks.ask(x, "p(_), p(_), p(_), p(_), p(_), p(_), p(A)"), 128);
        Checks.due("TUPLES stay", x.count(5), 5);
        Checks.due("RULES stay", x.count(2), 2);
        x.run();
        Checks.due("no question is a RULE", x.count(5), 5);
    }

    private static void askRefused() {
        for (String marked : new String[] {
            "^", "^?", "p(X),^", "p(X)^.", "p(X) ^:- q(X)", "^t(1)", "p(1), ^p(1,2)", "p(1), !^t(X)", "^X < 1", "!p(^X), p(X)",
            "p(X), ^X is 1 + 2", "p(1),p(1),p(1),p(1),p(1),p(1),p(1),p(1),^p(1)"}) {
            RoundReckoner x = full();
            Checks.put(x, Checks.unmarked(marked));
            leaves("ask " + marked, x, y -> Checks.due("ask " + marked, y.ask(), -1 - Checks.place(marked)));
        }
        for (int b = 0; b < 256; b++) {
            int due = b == 10 || b == 32 ? 1 : b == ',' ? -6 : -5;
            Checks.due("ask, byte " + b + " behind", Checks.ask(full(), "p(a)" + (char) b), due);
        }
        RoundReckoner x = Checks.toldOf(TEXT);
        Checks.put(x, "p(new)");
        refused("ask without a run", STATE, x, 0, x::ask);
        Checks.put(x, "?");
        refused("BROKEN ask without a run", STATE, x, 0, x::ask);
        RoundReckoner many = full();
        Checks.tell(many, Checks.facts("d", 0, 40));
        many.run();
        many.show(0);
        Checks.ask(many, "p(X), q(Y)");
        Checks.put(many, "d(A), d(B), d(C)");
        refused("ask too much", ARITHMETIC, many, 0, many::ask);
    }

    /** answer: "WAY i (of the first 100) .. VARIABLE k of it, numbered as first read, as for tuple". */
    private static void answer() {
        RoundReckoner x = Checks.ranOf("e(1,b). e(a,-2). " + Checks.facts("d", 0, 101));
        Checks.ask(x, "e(D,C), !d(C), !e(B,77), A is 3 * 4, e(_,D2), D <> 9");
        long[][] due = {{1, 200000000, 12, 200000000}, {1, 200000000, 12, -2}, {200000001, -2, 12, 200000000}, {200000001, -2, 12, -2}};
        int[] variables = {0, 1, 3, 4};
        for (int i = 0; i < 4; i++) {
            int way = i;
            for (int k = 0; k < 4; k++) {
                Checks.due("answer(" + i + "," + variables[k] + ")", x.answer(i, variables[k]), due[i][k]);
            }
            Checks.dueThrow("VARIABLE that is not KNOWN", INDEX, () -> x.answer(way, 2));
            for (int k : new int[] {5, 7, 8, 31, 32, 33, -1, LEAST, GREATEST}) {
                Checks.dueThrow("VARIABLE " + k, INDEX, () -> x.answer(way, k));
            }
        }
        for (int i : new int[] {4, 5, 99, 100, -1, LEAST, GREATEST}) {
            Checks.dueThrow("WAY " + i, INDEX, () -> x.answer(i, 0));
        }
        Checks.due("8 VARIABLES", Checks.ask(x, "e(A,B), e(C,D), e(E,F), e(G,H)"), 16);
        Checks.due("the last", x.answer(15, 7), -2);
        Checks.dueThrow("VARIABLE 8", INDEX, () -> x.answer(15, 8));
        Checks.dueThrow("WAY 16", INDEX, () -> x.answer(16, 7));
        Checks.due("101 WAYS", Checks.ask(x, "d(X)"), 101);
        Checks.due("WAY 0", x.answer(0, 0), 0);
        Checks.due("WAY 99", x.answer(99, 0), 99);
        Checks.dueThrow("WAY 100", INDEX, () -> x.answer(100, 0));
        Checks.due("100 WAYS", Checks.ask(x, "d(X), X < 100"), 100);
        Checks.due("the last of them", x.answer(99, 0), 99);
        Checks.due("99 WAYS", Checks.ask(x, "d(X), X < 99"), 99);
        Checks.dueThrow("WAY 99 of 99", INDEX, () -> x.answer(99, 0));
        Checks.due("no VARIABLES", Checks.ask(x, "d(1), !e(_,_), 1 = 1"), 0);
        Checks.due("no VARIABLES, one WAY", Checks.ask(x, "d(1)"), 1);
        Checks.dueThrow("VARIABLE 0 of none", INDEX, () -> x.answer(0, 0));
        RoundReckoner y = full();
        refused("answer of none", INDEX, y, 0, () -> y.answer(4, 0));
    }

    /** "of the latest ask that was neither BROKEN nor threw (none behind a change of CLAUSES, or a run)". */
    private static void answersGo() {
        RoundReckoner x = full();
        Checks.due("WAY 3", x.answer(3, 0), 200000000);
        Checks.ask(x, "p(X), X <");
        Checks.due("a BROKEN ask leaves it", x.answer(3, 0), 200000000);
        Checks.ask(x, "s(X)");
        Checks.due("an ask takes its place", x.answer(0, 0), 2);
        Checks.dueThrow("none of the earlier", INDEX, () -> x.answer(1, 0));
        Checks.ask(x, "s(X), X < 0");
        Checks.dueThrow("an ask without WAYS takes its place too", INDEX, () -> x.answer(0, 0));
        Checks.ask(x, "s(X)");
        x.run();
        Checks.dueThrow("behind a run", INDEX, () -> x.answer(0, 0));
        Checks.ask(x, "s(X)");
        Checks.tell(x, "t(1).");
        Checks.dueThrow("behind a change", INDEX, () -> x.answer(0, 0));
        Checks.put(x, "s(X)");
        Checks.dueThrow("ask without a run", STATE, x::ask);
        x.run();
        Checks.dueThrow("behind a change and a run", INDEX, () -> x.answer(0, 0));
        Checks.ask(x, "t(X)");
        Checks.due("asked anew", x.answer(0, 0), 1);
    }

    /** layer: "The LAYER of PREDICATE p in the latest run that went well; there is none: IndexOutOfBoundsException." */
    private static void layer() {
        RoundReckoner x = full();
        int[] due = {0, 1, 0, 2};
        for (int p = 0; p < 4; p++) {
            Checks.due("LAYER of " + p, x.layer(p), due[p]);
        }
        for (int p : new int[] {4, 5, 20, -1, LEAST, GREATEST}) {
            RoundReckoner y = full();
            refused("layer " + p, INDEX, y, 0, () -> y.layer(p));
        }
        x.drop(1);
        refused("layer without a run", STATE, x, 0, () -> x.layer(0));
        Checks.dueThrow("layer of none without a run", STATE, () -> x.layer(4));
        x.run();
        Checks.due("LAYER of s without its RULE", x.layer(3), 0);
        RoundReckoner none = new RoundReckoner();
        none.run();
        Checks.dueThrow("layer 0 of none", INDEX, () -> none.layer(0));
    }

    /** word: "8 bytes of OUT from i on, the highest first, zeros behind its end; i is none of its bytes: IndexOutOfBoundsException." */
    private static void word() {
        RoundReckoner x = Checks.ranOf("ab(12,c,-3). p(1).");
        Checks.dueThrow("word 0 of no OUT", INDEX, () -> x.word(0));
        String text = "ab(12,c,-3)";
        Checks.due("show", x.show(0), text.length());
        for (int i = 0; i < text.length(); i++) {
            long want = 0;
            for (int k = 0; k < 8; k++) {
                want = want << 8 | (i + k < text.length() ? text.charAt(i + k) : 0);
            }
            Checks.due("word " + i, x.word(i), want);
        }
        for (int i : new int[] {11, 12, 199, 200, -1, -8, LEAST, GREATEST}) {
            Checks.dueThrow("word " + i, INDEX, () -> x.word(i));
        }
        x.show(1);
        Checks.due("of a shorter text", x.word(0), 0x7028312900000000L);
        Checks.due("its last byte", x.word(3), 0x2900000000000000L);
        Checks.dueThrow("behind it", INDEX, () -> x.word(4));
        Checks.untell(x, "p(1).");
        Checks.due("OUT needs no run", x.word(3), 0x2900000000000000L);
        RoundReckoner y = full();
        refused("word of none", INDEX, y, 0, () -> y.word(4));
    }

    /** count: what 0 .. 9. */
    private static void counts() {
        RoundReckoner x = full();
        int[] due = {0, 4, 2, 2, 4, 5, 6, 4, 3, 1};
        for (int what = 0; what <= 9; what++) {
            Checks.due("count " + what, x.count(what), due[what]);
        }
        x.run();
        // q's RULE takes p 2, s's RULE q 2.
        Checks.due("STEPS of the run", x.count(6), 4);
        Checks.ask(x, "1 = 1");
        Checks.due("STEPS of the ask", x.count(6), 0);
        Checks.due("ROUNDS of the run", x.count(7), 4);
        for (int what : new int[] {10, 11, -1, LEAST, GREATEST}) {
            RoundReckoner y = full();
            y.feed(0, 0, 0, 0, 0);
            refused("count " + what, ARGUMENT, y, 20, () -> y.count(what));
        }
    }

    /** "5: TUPLES (0 without a run) .. 8: LAYERS (0 without a run)"; STEPS and ROUNDS are those of what went well. */
    private static void countsWithoutARun() {
        RoundReckoner x = full();
        x.drop(0);
        int[] due = {0, 4, 1, 2, 4, 0, 6, 4, 0, 1};
        for (int what = 0; what <= 9; what++) {
            Checks.due("count " + what + " without a run", x.count(what), due[what]);
        }
        Checks.put(x, "p(X)");
        Checks.dueThrow("ask", STATE, x::ask);
        Checks.due("STEPS stay", x.count(6), 6);
        x.run();
        Checks.due("TUPLES", x.count(5), 2);
        Checks.due("LAYERS", x.count(8), 2);
        Checks.due("STEPS", x.count(6), 0);
        Checks.due("ROUNDS", x.count(7), 2);
    }

    /** "What is thrown, in this order: IllegalArgumentException: a number out of range; IllegalStateException: ..; then as told." */
    private static void orderOfExceptions() {
        RoundReckoner x = Checks.toldOf(TEXT);
        Checks.dueThrow("tuple: what, run and TUPLE wrong", ARGUMENT, () -> x.tuple(-1, 9));
        Checks.dueThrow("tuple: run and TUPLE wrong", STATE, () -> x.tuple(-1, 8));
        Checks.dueThrow("why: run, TUPLE and ATOM wrong", STATE, () -> x.why(-1, -1));
        Checks.dueThrow("show: run and TUPLE wrong", STATE, () -> x.show(-1));
        Checks.dueThrow("layer: run and PREDICATE wrong", STATE, () -> x.layer(-1));
        Checks.dueThrow("find: run and text wrong", STATE, () -> Checks.find(x, "?"));
        Checks.dueThrow("ask: run and text wrong", STATE, () -> Checks.ask(x, "?"));
        Checks.dueThrow("answer needs no run", INDEX, () -> x.answer(-1, -1));
        Checks.dueThrow("word needs no run", INDEX, () -> x.word(0));
        x.run();
        Checks.dueThrow("tuple: what and TUPLE wrong", ARGUMENT, () -> x.tuple(-1, -1));
        Checks.dueThrow("tuple: TUPLE wrong", INDEX, () -> x.tuple(-1, 8));
        Checks.dueThrow("why: TUPLE wrong", INDEX, () -> x.why(-1, 0));
        Checks.dueThrow("show: TUPLE wrong", INDEX, () -> x.show(-1));
        Checks.dueThrow("layer: PREDICATE wrong", INDEX, () -> x.layer(-1));
    }
}
