/** The sentences of the document on LAYERS, TUPLES, WAYS, # and STEPS, each at its edges. */
public final class RunEdgesTest {
    private static final Class<?> INDEX = IndexOutOfBoundsException.class;
    private static final Class<?> ARITHMETIC = ArithmeticException.class;
    private static final Class<?> UNSUPPORTED = UnsupportedOperationException.class;

    private static final String DIGITS = Checks.facts("d", 0, 10);
    private static final String HUNDRED_MILLION = "big(X) :- X is 10000 * 10000. ";

    private RunEdgesTest() {
    }

    public static void main(String[] args) {
        leastLayers();
        mostLayers();
        noLayers();
        layersGo();
        factsFirst();
        talliesBeforeRounds();
        roundsEnd();
        tuplesWhenTheRoundBegan();
        headComesOnce();
        orderOfWays();
        knownOfArgsAhead();
        noSuchTuple();
        sameAndOther();
        less();
        resultsInRange();
        resultsOfSums();
        freshTuples();
        freshTuplesAmongThree();
        rulesWithoutAtoms();
        rowsOfTallies();
        countedWays();
        sums();
        sumsThatWrap();
        leastAndGreatest();
        stepsOfTuplesTaken();
        stepLimit();
        tupleLimit();
        mostRounds();
        manyTuples();
        manyRows();
        rowLimit();
        whichLimitFirst();
        askLimit();
        Checks.finish("RunEdgesTest");
    }

    private static void shows(String text, String tuples) {
        Checks.dueText(text, Checks.allShown(Checks.ranOf(text)), tuples);
    }

    private static void layers(String text, int... due) {
        RoundReckoner x = Checks.ranOf(text);
        int most = 0;
        for (int p = 0; p < due.length; p++) {
            Checks.due("LAYER of " + p + ": " + text, x.layer(p), due[p]);
            most = Math.max(most, due[p] + 1);
        }
        Checks.due("LAYERS of " + text, x.count(8), most);
        Checks.due("PREDICATES of " + text, x.count(4), due.length);
    }

    /** "of a PREDICATE the least numbers from 0 on, so that ..". */
    private static void leastLayers() {
        layers("");
        layers("p(1).", 0);
        layers("p(X) :- q(X).", 0, 0);
        layers("p(X) :- q(X), p(X).", 0, 0);
        layers("p(X) :- q(X). q(X) :- p(X).", 0, 0);
        layers("p(1) :- !q(1).", 1, 0);
        layers("p(1) :- !q(1). q(1) :- r(1). r(1) :- q(1).", 1, 0, 0);
        layers("p(# count) :- q(X).", 1, 0);
        layers("p(# count) :- !q(1).", 1, 0);
        layers("p(# count) :- 1 = 1.", 0);
        layers("p(# count) :- q(X), r(X), !s(X). q(1) :- !t(1). r(1) :- q(1).", 2, 1, 1, 0, 0);
        layers("p(# count) :- q(X), !s(X). s(1) :- !t(1). t(1) :- !u(1).", 3, 0, 2, 1, 0);
        layers("p(1) :- q(1), !r(1). q(1) :- !s(1). s(1) :- !r(1).", 2, 2, 0, 1);
        layers("a(1) :- b(1). b(1) :- c(1). c(1) :- !d(1).", 1, 1, 1, 0);
        layers("a(1) :- !b(1). a(1,2) :- !a(1). p(1) :- a(1,2), a(1).", 1, 0, 2, 2);
        layers("p(1). p(1) :- q(1). p(1) :- !q(1). p(# count) :- q(1).", 1, 0);
        layers("p(1) :- q(1). p(1) :- r(1). r(1) :- !q(1).", 1, 0, 1);
    }

    /** Twenty PREDICATES may lie in twenty LAYERS, whatever the order in which the RULES were told. */
    private static void mostLayers() {
        StringBuilder up = new StringBuilder("p0(1).");
        StringBuilder down = new StringBuilder("p0(1).");
        for (int k = 1; k < 20; k++) {
            up.append("p" + k + "(1) :- !p" + (k - 1) + "(1).");
            down.append("p" + (20 - k) + "(# count) :- p" + (19 - k) + "(X).");
        }
        RoundReckoner x = Checks.ranOf(up.toString());
        Checks.due("20 LAYERS", x.count(8), 20);
        Checks.due("LAYER 19", x.layer(19), 19);
        Checks.due("TUPLES of every second", x.count(5), 10);
        Checks.due("LAYER of the last TUPLE", x.tuple(9, 5), 18);
        // ROUND 1 of each, and ROUND 2 of the nine in which a RULE brought one.
        Checks.due("ROUNDS", x.count(7), 29);
        RoundReckoner y = Checks.ranOf(down.toString());
        Checks.due("20 LAYERS of #", y.count(8), 20);
        Checks.due("TUPLES of each", y.count(5), 20);
        Checks.due("ROUNDS of #", y.count(7), 20);
        Checks.due("the last one's LAYER", y.tuple(19, 5), 19);
        Checks.tell(x, "p0(2) :- !p19(2).");
        Checks.dueThrow("a ring of twenty", UNSUPPORTED, x::run);
        Checks.tell(y, "p0(2) :- p19(2).");
        Checks.dueThrow("a ring of twenty with #", UNSUPPORTED, y::run);
    }

    /** "No LAYERS are so: UnsupportedOperationException." */
    private static void noLayers() {
        String[] rings = {"p(1) :- !p(1).", "p(1) :- !p(2), q(1).", "p(# count) :- p(X).", "p(# count) :- q(X), !p(1).",
            "p(1) :- !q(1). q(1) :- p(1).", "p(1) :- q(1). q(1) :- r(1). r(1) :- !p(1).", "p(1) :- q(1). q(# sum X) :- p(X).",
            "p(1). q(1). p(X) :- q(X). q(X) :- p(X), !q(2).", "a(1) :- b(1). c(X) :- d(X), !c(X)."};
        // Rings of twenty with one ! or # in them, the RULES told with and against the ring.
        StringBuilder with = new StringBuilder();
        StringBuilder against = new StringBuilder();
        for (int k = 1; k < 20; k++) {
            with.append("p" + k + "(1) :- p" + (k - 1) + "(1).");
            against.append("p" + (20 - k) + "(1) :- p" + (19 - k) + "(1).");
        }
        for (String last : new String[] {"p0(1) :- !p19(1).", "p0(# count) :- p19(1)."}) {
            Checks.dueThrow("with the ring " + last, UNSUPPORTED, Checks.toldOf(with + last)::run);
            Checks.dueThrow("against the ring " + last, UNSUPPORTED, Checks.toldOf(against + last)::run);
        }
        Checks.due("a ring without them", Checks.toldOf(against + "p0(1) :- p19(1). p7(1).").run(), 20);
        for (String text : rings) {
            RoundReckoner x = Checks.toldOf(text);
            Checks.dueThrow("run of " + text, UNSUPPORTED, x::run);
            Checks.due("TUPLES of " + text, x.count(5), 0);
            Checks.due("LAYERS of " + text, x.count(8), 0);
            Checks.dueText("tuple of " + text, Checks.said(() -> x.tuple(0, 0)), "IllegalState");
            Checks.dueThrow("run again of " + text, UNSUPPORTED, x::run);
        }
    }

    /** What goes takes its LAYERS along; a PREDICATE without CLAUSES lies in LAYER 0. */
    private static void layersGo() {
        RoundReckoner x = Checks.ranOf("p(1). q(1) :- !p(2). r(1) :- !q(2).");
        Checks.due("LAYERS", x.count(8), 3);
        x.drop(1);
        x.run();
        Checks.due("LAYERS without the last", x.count(8), 2);
        Checks.due("LAYER of r", x.layer(2), 0);
        x.drop(0);
        x.run();
        Checks.due("LAYERS without both", x.count(8), 1);
        Checks.due("LAYER of q", x.layer(1), 0);
        Checks.untell(x, "p(1).");
        Checks.due("no CLAUSES", x.run(), 0);
        Checks.due("the PREDICATES' LAYER", x.count(8), 1);
        Checks.due("its ROUND", x.count(7), 1);
    }

    /** "It goes LAYER by LAYER: first the FACTS of its PREDICATES come, as they were told". */
    private static void factsFirst() {
        shows("b(2). a(1). b(1). a(2).", "b(2) a(1) b(1) a(2)");
        shows("b(2). a(1) :- b(2). b(1). a(2).", "b(2) b(1) a(2) a(1)");
        shows("b(2). a(1). b(1) :- !a(7). c(9). a(2).", "a(1) c(9) a(2) b(2) b(1)");
        RoundReckoner x = Checks.toldOf("a(1). a(2). a(3).");
        Checks.untell(x, "a(1).");
        Checks.tell(x, "a(4). a(1). a(2).");
        x.run();
        Checks.dueText("told anew", Checks.allShown(x), "a(2) a(3) a(4) a(1)");
        for (int i = 0; i < 4; i++) {
            Checks.due("ROUND of a FACT", x.tuple(i, 6), 0);
            Checks.due("RULE of a FACT", x.tuple(i, 7), -1);
            Checks.due("ATOMS of a FACT", x.tuple(i, 8), 0);
        }
    }

    /** "then, in the RULES' order, those with # ; then ROUNDS". */
    private static void talliesBeforeRounds() {
        String text = "n(7). n(8). c(X) :- n(X). c(# max X) :- n(X). c(# count) :- n(X). c(# min X) :- n(X). c(8). c(X) :- X is 1 + 1. ";
        shows(text, "n(7) n(8) c(8) c(2) c(7)");
        RoundReckoner x = Checks.ranOf(text);
        int[] rules = {-1, -1, -1, 2, 3};
        for (int i = 0; i < 5; i++) {
            Checks.due("RULE of TUPLE " + i, x.tuple(i, 7), rules[i]);
            Checks.due("ROUND of TUPLE " + i, x.tuple(i, 6), 0);
            Checks.due("ATOMS of TUPLE " + i, x.tuple(i, 8), 0);
            int t = i;
            Checks.dueThrow("why of TUPLE " + i, INDEX, () -> x.why(t, 0));
        }
        // What # brought is there when ROUND 1 begins, and is none of those that came in it.
        shows("n(7). c(# count) :- n(X). c(Y) :- c(X), Y is X + 1, Y < 4.", "n(7) c(1) c(2) c(3)");
    }

    /** "until a ROUND brings none": that one counts too. */
    private static void roundsEnd() {
        Checks.due("no PREDICATES", roundsOf(""), 0);
        Checks.due("FACTS alone", roundsOf("p(1)."), 1);
        Checks.due("a RULE that brings none", roundsOf("p(1). q(X) :- p(X), X < 1."), 1);
        Checks.due("a RULE that brings what is there", roundsOf("p(1). p(X) :- p(X)."), 1);
        Checks.due("a RULE that brings one", roundsOf("p(1). q(X) :- p(X)."), 2);
        Checks.due("one ROUND later", roundsOf("p(1). r(X) :- q(X). q(X) :- p(X)."), 3);
        Checks.due("two LAYERS", roundsOf("p(1). q(X) :- p(X). r(X) :- p(X), !q(2)."), 4);
        Checks.due("# alone", roundsOf("p(1). q(# count) :- p(X)."), 2);
    }

    private static int roundsOf(String text) {
        return Checks.ranOf(text).count(7);
    }

    /** "with the TUPLES that were there when the ROUND began". */
    private static void tuplesWhenTheRoundBegan() {
        RoundReckoner x = Checks.ranOf("p(1). q(X) :- p(X). r(X) :- q(X). s(X) :- r(X), q(X), p(X).");
        Checks.dueText("TUPLES", Checks.allShown(x), "p(1) q(1) r(1) s(1)");
        for (int i = 0; i < 4; i++) {
            Checks.due("ROUND of " + i, x.tuple(i, 6), i);
        }
        // A RULE does not meet what it brings itself before the next ROUND.
        RoundReckoner y = Checks.ranOf("n(0). n(Y) :- n(X), Y is X + 1, Y < 5.");
        for (int i = 0; i < 5; i++) {
            Checks.due("ROUND of n(" + i + ")", y.tuple(i, 6), i);
        }
        Checks.due("STEPS", y.count(6), 5);
        Checks.due("ROUNDS", y.count(7), 5);
    }

    /** "for each WAY its HEAD comes, if it is not there": the first WAY stands. */
    private static void headComesOnce() {
        RoundReckoner x = Checks.ranOf("p(2). p(1). q(7) :- p(X). q(7) :- p(1). p(1) :- q(7). r(X) :- p(X). r(1) :- p(_).");
        Checks.dueText("TUPLES", Checks.allShown(x), "p(2) p(1) q(7) r(2) r(1)");
        Checks.due("the first WAY'S TUPLE", x.why(2, 0), 0);
        Checks.due("the first RULE", x.tuple(2, 7), 0);
        Checks.due("r(1)'s RULE", x.tuple(4, 7), 3);
        Checks.due("r(1)'s TUPLE", x.why(4, 0), 1);
        Checks.due("p(1) stays a FACT", x.tuple(1, 7), -1);
        RoundReckoner y = Checks.ranOf("p(1). p(2). q(X) :- p(X), !r(X). r(1) :- p(2). q(2) :- p(1), r(1), p(2).");
        Checks.due("q(2) of RULE 0", y.tuple(y.count(5) - 1, 7), 0);
        Checks.due("ATOMS without !", y.tuple(y.count(5) - 1, 8), 1);
    }

    /** "for each ATOM, from the left, one after the other, each TUPLE of it in the order of numbers". */
    private static void orderOfWays() {
        shows("a(2). b(4). a(1). b(3). c(X,Y) :- a(X), b(Y).", "a(2) b(4) a(1) b(3) c(2,4) c(2,3) c(1,4) c(1,3)");
        shows("a(2). b(4). a(1). b(3). c(X,Y) :- b(Y), a(X).", "a(2) b(4) a(1) b(3) c(2,4) c(1,4) c(2,3) c(1,3)");
        RoundReckoner x = Checks.ranOf("e(1,5). e(2,5). e(1,6). e(2,6). f(X,Y) :- e(1,Y), e(X,Y).");
        Checks.dueText("with CONSTANTS and what is KNOWN", Checks.allShown(x),
            "e(1,5) e(2,5) e(1,6) e(2,6) f(1,5) f(2,5) f(1,6) f(2,6)");
        int[][] took = {{0, 0}, {0, 1}, {2, 2}, {2, 3}};
        for (int i = 0; i < 4; i++) {
            Checks.due("why " + i + " 0", x.why(4 + i, 0), took[i][0]);
            Checks.due("why " + i + " 1", x.why(4 + i, 1), took[i][1]);
        }
        Checks.ask(x, "f(A,B), e(B,_)");
        Checks.due("WAYS", Checks.ask(x, "e(A,B), e(C,B), A < C"), 2);
        Checks.due("first", x.answer(0, 1), 5);
        Checks.due("second", x.answer(1, 1), 6);
    }

    /** "that has its CONSTANTS and what is KNOWN (also of ARGS ahead in it)". */
    private static void knownOfArgsAhead() {
        String facts = "e(1,1,1,1). e(1,1,1,2). e(1,2,1,2). e(2,2,1,1). e(a,a,a,a). ";
        String[][] asked = {{"e(X,X,X,X)", "2"}, {"e(X,X,X,_)", "3"}, {"e(X,Y,X,Y)", "3"}, {"e(X,X,Y,Y)", "3"}, {"e(_,_,X,X)", "3"},
            {"e(1,X,1,X)", "2"}, {"e(X,1,X,2)", "1"}, {"e(a,a,a,X)", "1"}, {"e(b,X,Y,Z)", "0"}, {"e(X,Y,Z,W), e(Y,X,W,Z)", "3"},
            {"e(X,Y,Z,3)", "0"}, {"X is 1 + 1, e(_,X,_,X)", "1"}, {"X is 1 + 1, e(X,_,Y,Y)", "1"}};
        RoundReckoner x = Checks.ranOf(facts);
        for (String[] one : asked) {
            Checks.due("ask " + one[0], Checks.ask(x, one[0]), Integer.parseInt(one[1]));
        }
        // STEPS count what was taken alone, not what was looked at.
        Checks.ask(x, "e(X,X,X,X)");
        Checks.due("STEPS", x.count(6), 2);
    }

    /** "! ATOM: there is no such TUPLE". */
    private static void noSuchTuple() {
        RoundReckoner x = Checks.ranOf("e(1,1). e(1,2). e(a,3). f(1). f(2). f(a).");
        String[][] asked = {{"!e(_,_)", "0"}, {"!e(1,_)", "0"}, {"!e(2,_)", "1"}, {"!e(_,3)", "0"}, {"!e(_,4)", "1"}, {"!e(1,3)", "1"},
            {"!e(X,Y)", "0"}, {"!e(X,4)", "1"}, {"f(X), !e(X,_)", "1"}, {"f(X), !e(X,X)", "2"}, {"f(X), !e(_,X)", "1"},
            {"f(X), !e(X,Y)", "1"}, {"f(X), f(Y), !e(X,Y)", "7"}, {"X is 1 + 2, !e(_,X)", "0"}, {"X is 1 + 3, !e(_,X)", "1"}};
        for (String[] one : asked) {
            Checks.due("ask " + one[0], Checks.ask(x, one[0]), Integer.parseInt(one[1]));
        }
        Checks.ask(x, "!e(2,_), !e(3,_)");
        Checks.due("no STEPS of ! ATOMS", x.count(6), 0);
        shows("p(1) :- !q(1). q(2).", "q(2) p(1)");
        shows("p(1) :- !q(2). q(2).", "q(2)");
        shows("p(1) :- !q(X). q(2).", "q(2)");
        shows("p(1) :- !q(X), !r(_). q(2) :- r(1).", "p(1)");
    }

    /** "= and <> by being the same". */
    private static void sameAndOther() {
        RoundReckoner x = Checks.ranOf("v(1). v(a). v(-1). v(0). z(a0). z(0).");
        String[][] asked = {{"1 = 1", "1"}, {"1 = 2", "0"}, {"a = a", "1"}, {"a = b", "0"}, {"a = 1", "0"}, {"1 = a", "0"}, {"-0 = 0", "1"},
            {"007 = 7", "1"}, {"-1 = 1", "0"}, {"1 <> 1", "0"}, {"1 <> 2", "1"}, {"a <> a", "0"}, {"a <> b", "1"}, {"a <> 1", "1"},
            {"0 <> -0", "0"}, {"v(X), X = a", "1"}, {"v(X), X <> a", "3"}, {"v(X), v(Y), X = Y", "4"}, {"v(X), v(Y), X <> Y", "12"},
            {"v(X), X = X", "4"}, {"v(X), X <> X", "0"}, {"v(X), z(X)", "1"}, {"v(X), z(Y), X = Y", "1"}};
        for (String[] one : asked) {
            Checks.due("ask " + one[0], Checks.ask(x, one[0]), Integer.parseInt(one[1]));
        }
    }

    /** "< of two numbers alone, else it is not so". */
    private static void less() {
        RoundReckoner x = Checks.ranOf("v(1). v(a). v(-1). v(b).");
        String[][] asked = {{"1 < 2", "1"}, {"1 < 1", "0"}, {"2 < 1", "0"}, {"-1 < 0", "1"}, {"-2 < -1", "1"}, {"-1 < -2", "0"}, {"0 < -0", "0"},
            {"-9999999 < 9999999", "1"}, {"9999999 < -9999999", "0"}, {"9999998 < 9999999", "1"}, {"a < b", "0"}, {"b < a", "0"},
            {"a < 9999999", "0"}, {"-9999999 < a", "0"}, {"a < a", "0"}, {"v(X), v(Y), X < Y", "1"}, {"v(X), X < 1", "1"}, {"v(X), X < 2", "2"}};
        for (String[] one : asked) {
            Checks.due("ask " + one[0], Checks.ask(x, one[0]), Integer.parseInt(one[1]));
        }
    }

    /** "is of numbers, if the result is -100000000 .. 100000000 (else it is not so)". */
    private static void resultsInRange() {
        RoundReckoner x = Checks.ranOf("v(1).");
        String[][] asked = {{"X is 1 + 2", "3"}, {"X is 1 - 2", "-1"}, {"X is -3 * 4", "-12"}, {"X is 0 * -5", "0"}, {"X is -7--7", "0"},
            {"X is 9999999 + 9999999", "19999998"}, {"X is -9999999 - 9999999", "-19999998"}, {"X is 10000 * 10000", "100000000"},
            {"X is -10000 * 10000", "-100000000"}, {"X is 10000 * -10000", "-100000000"}, {"X is -10000 * -10000", "100000000"},
            {"Y is 10000 * 10000, X is Y - 1", "99999999"}, {"Y is 10000 * 10000, X is Y + 0", "100000000"},
            {"Y is 10000 * 10000, X is Y + 1", "no"}, {"Y is 10000 * 10000, X is 0 - Y", "-100000000"},
            {"Y is -10000 * 10000, X is Y - 1", "no"}, {"Y is -10000 * 10000, X is Y - -1", "-99999999"},
            {"Y is 10000 * 10000, X is Y + Y", "no"}, {"Y is 10000 * 10000, X is Y * Y", "no"}, {"Y is -10000 * 10000, X is Y * Y", "no"},
            {"Y is 10000 * 10000, X is -1 - Y", "no"}, {"X is 10001 * 9999", "99999999"}, {"X is 10001 * 10000", "no"},
            {"X is 9999999 * 9999999", "no"}, {"X is -9999999 * 9999999", "no"}, {"X is 65536 * 65536", "no"},
            {"X is 131072 * 32768", "no"}, {"X is 65537 * 65536", "no"}, {"X is 9999999 * 10", "99999990"}, {"X is 9999999 * 11", "no"},
            {"X is a + 1", "no"}, {"X is 1 + a", "no"}, {"X is a - a", "no"}, {"X is a * 0", "no"}, {"X is 0 * a", "no"}};
        for (String[] one : asked) {
            boolean so = !one[1].equals("no");
            Checks.due("ask " + one[0], Checks.ask(x, one[0]), so ? 1 : 0);
            if (so) {
                Checks.due("answer of " + one[0], x.answer(0, one[0].startsWith("Y") ? 1 : 0), Integer.parseInt(one[1]));
            }
        }
        shows("v(3). v(a). v(9999999). w(Y) :- v(X), Y is X * 100.", "v(3) v(a) v(9999999) w(300)");
    }

    /** A sum may be any int: what comes of it is looked at before it could wrap. */
    private static void resultsOfSums() {
        String top = HUNDRED_MILLION + Checks.facts("k", 1, 22) + "w(X,K) :- big(X), k(K). w(Z,0) :- Y is 9999999 * 4, Z is Y + 7483651. ";
        RoundReckoner x = Checks.ranOf(top + "s(# sum X) :- w(X,_). t(# sum Z) :- w(X,_), Z is 0 - X.");
        Checks.due("the greatest int", Checks.ask(x, "s(X)"), 1);
        Checks.due("it", x.answer(0, 0), Integer.MAX_VALUE);
        String[][] asked = {{"s(X), Y is X + 1", "0"}, {"s(X), Y is X + X", "0"}, {"s(X), Y is X - X", "1"}, {"s(X), Y is X * 0", "1"},
            {"s(X), Y is X * 2", "0"}, {"s(X), t(Z), Y is X + Z", "1"}, {"s(X), t(Z), Y is X - Z", "0"}, {"s(X), t(Z), Y is Z - X", "0"},
            {"s(X), t(Z), Y is X * Z", "0"}, {"s(X), 9999999 < X", "1"}, {"t(X), X < -9999999", "1"}, {"s(X), t(Z), Z < X", "1"},
            {"s(X), t(Z), X < Z", "0"}, {"s(X), X = a", "0"}};
        for (String[] one : asked) {
            Checks.due("ask " + one[0], Checks.ask(x, one[0]), Integer.parseInt(one[1]));
        }
    }

    /**
     * "Behind the first ROUND of a LAYER those WAYS alone count that take one TUPLE at least that came in the ROUND before;
     * so the last ATOM of a RULE takes none but such, if no other ATOM has."
     */
    private static void freshTuples() {
        RoundReckoner x = Checks.ranOf("p(1). p(2). q(X,Y) :- p(X), p(Y).");
        // ROUND 1: 2 + 4; ROUND 2: the first ATOM takes both, the last none.
        Checks.due("STEPS of two ATOMS", x.count(6), 8);
        x = Checks.ranOf("p(1). p(2). q(X) :- p(X).");
        Checks.due("STEPS of one ATOM", x.count(6), 2);
        x = Checks.ranOf("p(1). q(X) :- p(X). r(X,Y,Z) :- p(X), q(Y), p(Z).");
        // ROUND 1: q's 1; r's p 1. ROUND 2: r's p 1, q 1 that is new, p 1; ROUND 3: p 1, q 1.
        Checks.due("STEPS of three ATOMS", x.count(6), 2 + 3 + 2);
        Checks.dueText("their TUPLES", Checks.allShown(x), "p(1) q(1) r(1,1,1)");
        Checks.due("the last one's ROUND", x.tuple(2, 6), 2);
        // The last ATOM meets what is new in ROUND 2, while the first takes what is old.
        x = Checks.ranOf("p(1). q(X) :- p(X). r(X,Y) :- p(X), q(Y).");
        Checks.due("STEPS with the new one last", x.count(6), 2 + 2 + 1);
        // FACTS and what # brought are none of a ROUND'S: ROUND 2 has what ROUND 1 brought.
        x = Checks.ranOf("p(1). q(5). q(X) :- p(X). r(X,Y) :- q(X), q(Y).");
        // ROUND 1: 1 + 1 + 1; ROUND 2: q 2, behind q(5) the new one, behind q(1) both; ROUND 3: q 2.
        Checks.due("STEPS with FACTS", x.count(6), 3 + 2 + 1 + 2 + 2);
        Checks.dueText("in order", Checks.allShown(x), "p(1) q(5) q(1) r(5,5) r(5,1) r(1,5) r(1,1)");
        // In a LAYER above, ROUND 1 takes all, whatever the ROUND below in which they came.
        x = Checks.ranOf("p(1). q(X) :- p(X). r(X) :- q(X), !s(X). s(7).");
        Checks.due("ROUND 1 of LAYER 1", x.tuple(3, 6), 1);
        Checks.due("its STEPS", x.count(6), 2);
    }

    /** Each TUPLE that an earlier ATOM takes has to be looked at anew: a new one taken before it says nothing of it. */
    private static void freshTuplesAmongThree() {
        RoundReckoner x = Checks.ranOf("p(1). p(2). q(5). q(X) :- p(X), X < 2. r(X,Y,Z) :- p(X), q(Y), q(Z).");
        Checks.dueText("TUPLES", Checks.allShown(x), "p(1) p(2) q(5) q(1) r(1,5,5) r(2,5,5) r(1,5,1) r(1,1,5) r(1,1,1) r(2,5,1) r(2,1,5) r(2,1,1)");
        // ROUND 1: 2, and 2 + 2 + 2; ROUND 2: for each p 1, q 2, behind q(5) the new one, behind q(1) both; ROUND 3: 2 + 4.
        Checks.due("STEPS", x.count(6), 8 + 2 * 6 + 6);
    }

    /** "(A RULE without ATOMS has its WAY in ROUND 1 alone.)" */
    private static void rulesWithoutAtoms() {
        RoundReckoner x = Checks.ranOf("p(1) :- 1 < 2. p(Y) :- Y is 1 + 1. p(3) :- !q(1). p(4) :- 2 < 1. r(X) :- p(X). r(9) :- !q(3), 1 = 1.");
        Checks.dueText("TUPLES", Checks.allShown(x), "p(1) p(2) p(3) r(9) r(1) r(2) r(3)");
        for (int i = 0; i < 7; i++) {
            Checks.due("ROUND of " + i, x.tuple(i, 6), i < 4 ? 1 : 2);
            Checks.due("ATOMS of " + i, x.tuple(i, 8), i < 4 ? 0 : 1);
        }
        Checks.dueThrow("why p(1)", INDEX, () -> x.why(0, 0));
        Checks.due("STEPS", x.count(6), 3);
    }

    /** "With #: all WAYS, for each row of the HEAD'S other ARGS, in the order in which they are first met, one TUPLE". */
    private static void rowsOfTallies() {
        shows("s(b,1). s(a,2). s(b,3). s(c,4). t(X,# sum Y) :- s(X,Y).", "s(b,1) s(a,2) s(b,3) s(c,4) t(b,4) t(a,2) t(c,4)");
        shows("s(b,1). s(a,2). t(# count,X) :- s(_,_), s(X,_).", "s(b,1) s(a,2) t(2,b) t(2,a)");
        shows("s(b,1). s(a,2). t(7,# count) :- s(_,_).", "s(b,1) s(a,2) t(7,2)");
        shows("s(b,1). s(a,2). t(# count) :- s(_,_).", "s(b,1) s(a,2) t(2)");
        shows("s(b,1). s(a,2). t(# count) :- s(c,_).", "s(b,1) s(a,2)");
        shows("s(b,1). s(a,2). t(# sum X) :- s(c,X).", "s(b,1) s(a,2)");
        shows("s(1,2). s(2,1). t(X,Y,# count,X) :- s(X,Y).", "s(1,2) s(2,1) t(1,2,1,1) t(2,1,1,2)");
        shows("s(0). s(a). t(X,# count) :- s(X).", "s(0) s(a) t(0,1) t(a,1)");
        shows("s(3). s(4). t(X,# sum X) :- s(X).", "s(3) s(4) t(3,3) t(4,4)");
        shows("s(3). t(3,1). t(X,# count) :- s(X). t(X,# min X) :- s(X). t(3,# max X) :- s(X).", "s(3) t(3,1) t(3,3)");
    }

    /** "# how many WAYS". */
    private static void countedWays() {
        shows("s(1). s(2). s(3). t(# count) :- s(X), s(Y).", "s(1) s(2) s(3) t(9)");
        shows("s(1). s(2). s(3). t(# count) :- s(X), s(Y), X < Y.", "s(1) s(2) s(3) t(3)");
        shows("s(1). s(1). t(# count) :- s(_).", "s(1) t(1)");
        shows("t(# count) :- 1 < 2.", "t(1)");
        shows("t(# count) :- 2 < 1.", "");
        shows("s(x). t(# count) :- s(_), !s(y).", "s(x) t(1)");
    }

    /** "the sum .. of V of WAYS in which it is a number (none is: sum 0, ..)". */
    private static void sums() {
        shows("s(a,1). s(a,b). s(a,-5). s(c,d). t(X,# sum Y) :- s(X,Y).", "s(a,1) s(a,b) s(a,-5) s(c,d) t(a,-4) t(c,0)");
        shows("s(1,1). s(1,2). t(# sum X) :- s(X,_).", "s(1,1) s(1,2) t(2)");
        shows("s(5). s(-5). t(# sum X) :- s(X).", "s(5) s(-5) t(0)");
        shows("t(# sum X) :- X is 3 * 4.", "t(12)");
    }

    /** "(an int that wraps)": at the greatest and at the least int, and all the way round. */
    private static void sumsThatWrap() {
        String ways = HUNDRED_MILLION + "low(X) :- X is -10000 * 10000. up(Z) :- Y is 9999999 * 4, Z is Y + 7483651. dn(Z) :- up(X), Z is 0 - X. ";
        String facts = Checks.facts("k", 0, 50);
        RoundReckoner x = Checks.ranOf(ways + facts + "u(X,K) :- big(X), k(K), K < 21. u(X,30) :- up(X)."
            + "d(X,K) :- low(X), k(K), K < 21. d(X,30) :- dn(X). v(X,K) :- u(X,K). v(1,31) :- 1 = 1. e(X,K) :- d(X,K). e(-1,31) :- 1 = 1."
            + "f(X,K) :- e(X,K). f(-1,32) :- 1 = 1. r(X,K) :- big(X), k(K), K < 43."
            + "a(# sum X) :- u(X,_). b(# sum X) :- v(X,_). c(# sum X) :- d(X,_). g(# sum X) :- e(X,_). h(# sum X) :- f(X,_). i(# sum X) :- r(X,_).");
        int first = x.count(5) - 6;
        int[] due = {2147483647, -2147483648, -2147483647, -2147483648, 2147483647, (int) 4300000000L};
        String[] shown = {"a(2147483647)", "b(-2147483648)", "c(-2147483647)", "g(-2147483648)", "h(2147483647)", "i(5032704)"};
        for (int i = 0; i < 6; i++) {
            Checks.due("sum " + shown[i], x.tuple(first + i, 0), due[i]);
            Checks.dueText("shown", Checks.shown(x, first + i), shown[i]);
        }
        // A sum that is 200000000 is a number, and not the first NAME.
        RoundReckoner y = Checks.ranOf(HUNDRED_MILLION + "n(x). k(1). k(2). w(X,K) :- big(X), k(K). s(# sum X) :- w(X,_).");
        int last = y.count(5) - 1;
        Checks.due("200000000", y.tuple(last, 0), 200000000);
        Checks.dueText("as a number", Checks.shown(y, last), "s(200000000)");
        Checks.due("is no NAME", Checks.ask(y, "s(X), n(X)"), 0);
        Checks.due("is less", Checks.ask(y, "s(X), 9999999 < X"), 1);
    }

    /** "or least or greatest of V of WAYS in which it is a number (.. else no TUPLE)". */
    private static void leastAndGreatest() {
        String facts = "s(a,3). s(b,x). s(a,-5). s(c,y). s(c,0). s(a,z). s(d,-7). s(d,-8).";
        String shown = "s(a,3) s(b,x) s(a,-5) s(c,y) s(c,0) s(a,z) s(d,-7) s(d,-8) ";
        shows(facts + "l(X,# min Y) :- s(X,Y).", shown + "l(a,-5) l(c,0) l(d,-8)");
        shows(facts + "g(X,# max Y) :- s(X,Y).", shown + "g(a,3) g(c,0) g(d,-7)");
        shows(facts + "l(# min Y) :- s(b,Y). g(# max Y) :- s(b,Y). t(# sum Y) :- s(b,Y).", shown + "t(0)");
        shows(facts + "l(# min Y) :- s(_,Y). g(# max Y) :- s(_,Y).", shown + "l(-8) g(3)");
        // Rows come in the order in which they are met, not in that of their first number.
        shows("s(a,x). s(b,1). s(a,2). l(X,# min Y) :- s(X,Y).", "s(a,x) s(b,1) s(a,2) l(a,2) l(b,1)");
    }

    /** "STEPS: 1 for each TUPLE that an ATOM (without !) takes." */
    private static void stepsOfTuplesTaken() {
        RoundReckoner x = Checks.ranOf("e(1,2). e(2,3). e(3,3). f(2).");
        Checks.due("STEPS of FACTS", x.count(6), 0);
        String[][] asked = {{"e(_,_)", "3"}, {"e(X,X)", "1"}, {"e(_,3)", "2"}, {"e(4,_)", "0"}, {"!e(4,_)", "0"}, {"f(X), e(X,_)", "2"},
            {"e(X,Y), e(Y,Z)", "6"}, {"e(X,Y), X < 2, e(Y,Z)", "4"}, {"e(X,Y), e(Y,Z), X < 2", "6"}, {"e(X,Y), !f(Y), e(Y,Z)", "5"},
            {"1 = 2, e(_,_)", "0"}, {"e(_,_), 1 = 2", "3"}, {"e(_,_), e(_,_), e(_,_)", "39"}};
        for (String[] one : asked) {
            Checks.ask(x, one[0]);
            Checks.due("STEPS of " + one[0], x.count(6), Integer.parseInt(one[1]));
        }
        Checks.due("of #", Checks.ranOf("e(1,2). e(2,3). t(# count) :- e(X,Y), e(Y,_).").count(6), 3);
    }

    /** "More than 50000 in a run: ArithmeticException; .. then there are no TUPLES." */
    private static void stepLimit() {
        // 10 + 100 + 1000 + 10000 in ROUND 1 for each such RULE, and none in a ROUND 2.
        String four = "n(1) :- d(A), d(B), d(C), d(D), D < 0. ";
        String one = "n(1) :- d(1), 1 = 2. ";
        String three = "n(1) :- d(A), d(B), d(C), C < 0. ";
        RoundReckoner x = Checks.toldOf(DIGITS + Checks.times(4, four) + Checks.times(5, three) + Checks.times(10, one));
        Checks.due("50000 STEPS", x.run(), 10);
        Checks.due("count", x.count(6), 50000);
        x.show(9);
        Checks.ask(x, "d(7)");
        x.run();
        Checks.tell(x, one);
        Checks.dueThrow("50001 STEPS", ARITHMETIC, x::run);
        Checks.due("no TUPLES", x.count(5), 0);
        Checks.due("no LAYERS", x.count(8), 0);
        Checks.due("STEPS stay", x.count(6), 50000);
        Checks.due("ROUNDS stay", x.count(7), 1);
        Checks.dueText("no TUPLE 0", Checks.said(() -> x.tuple(0, 0)), "IllegalState");
        Checks.dueText("no LAYER", Checks.said(() -> x.layer(0)), "IllegalState");
        Checks.dueText("OUT stays", Checks.out(x), "d(9)");
        Checks.due("CLAUSES stay", x.count(2) * 1000 + x.count(3), 20010);
        x.drop(19);
        Checks.due("well again", x.run(), 10);
        // STEPS of # and of all LAYERS and ROUNDS count together.
        RoundReckoner y = Checks.toldOf(DIGITS + Checks.times(4, "c(# count) :- d(A), d(B), d(C), d(D). ")
            + Checks.times(5, "n(1) :- d(A), d(B), d(C), !c(C), C < 0. ") + Checks.times(10, "m(1) :- d(1), !n(3), 1 = 2. "));
        Checks.due("50000 STEPS of all", y.run(), 11);
        Checks.due("their count", y.count(6), 50000);
        Checks.tell(y, one);
        Checks.dueThrow("50001 STEPS of all", ARITHMETIC, y::run);
    }

    /** "more than 2000 TUPLES .. : IndexOutOfBoundsException; then there are no TUPLES." */
    private static void tupleLimit() {
        String rules = "n(N) :- n(M), N is M + 1, N < @. n(0).";
        RoundReckoner x = Checks.toldOf(rules.replace("@", "2000"));
        Checks.due("2000 TUPLES", x.run(), 2000);
        Checks.due("the last", x.tuple(1999, 0), 1999);
        Checks.due("its ROUND", x.tuple(1999, 6), 1999);
        Checks.due("its why", x.why(1999, 0), 1998);
        Checks.dueThrow("TUPLE 2000", INDEX, () -> x.tuple(2000, 0));
        Checks.due("found", Checks.find(x, "n(1999)"), 1999);
        Checks.due("asked", Checks.ask(x, "n(X), 1998 < X"), 1);
        Checks.tell(x, "m(1).");
        Checks.dueThrow("a FACT more", INDEX, x::run);
        Checks.due("no TUPLES", x.count(5), 0);
        Checks.due("no LAYERS", x.count(8), 0);
        Checks.due("ROUNDS stay", x.count(7), 2000);
        Checks.due("STEPS stay", x.count(6), 2000);
        Checks.dueText("no TUPLE 0", Checks.said(() -> x.show(0)), "IllegalState");
        Checks.untell(x, "m(1).");
        Checks.due("well again", x.run(), 2000);
        Checks.tell(x, "c(# count) :- n(X).");
        Checks.dueThrow("one of # more", INDEX, x::run);
        x.drop(1);
        Checks.tell(x, "c(1) :- !n(2001).");
        Checks.dueThrow("one of a LAYER above more", INDEX, x::run);
        x.drop(1);
        Checks.tell(x, "n(X) :- n(X). n(7) :- 1 = 1.");
        Checks.due("what is there is none more", x.run(), 2000);
        RoundReckoner y = Checks.toldOf(rules.replace("@", "2001"));
        Checks.dueThrow("2001 TUPLES", INDEX, y::run);
    }

    /** As many ROUNDS as can be: each of 2000 brings one TUPLE, and one more brings none. */
    private static void mostRounds() {
        RoundReckoner x = Checks.toldOf("n(0) :- 1 = 1. n(N) :- n(M), N is M + 1, N < 2000.");
        Checks.due("TUPLES", x.run(), 2000);
        Checks.due("ROUNDS", x.count(7), 2001);
        Checks.due("the last TUPLE'S ROUND", x.tuple(1999, 6), 2000);
        Checks.due("STEPS", x.count(6), 2000);
    }

    /** A full house of many PREDICATES: each TUPLE is found, and each ATOM takes its own alone. */
    private static void manyTuples() {
        StringBuilder text = new StringBuilder(Checks.facts("v", 0, 10));
        for (int p = 0; p < 19; p++) {
            String[] heads = {"(A,B)", "(B,A)", "(A,7,B)", "(B,A,B,A)"};
            text.append("t").append(p).append(heads[p % 4]).append(" :- v(A), v(B).");
        }
        RoundReckoner x = Checks.ranOf(text.toString());
        Checks.due("TUPLES", x.count(5), 1910);
        String[] all = {"(_,_)", "(_,_)", "(_,_,_)", "(_,_,_,_)"};
        String[] first = {"(3,_)", "(3,_)", "(3,_,_)", "(3,_,_,_)"};
        String[] last = {"(_,4)", "(_,4)", "(_,_,4)", "(_,_,_,4)"};
        for (int p = 0; p < 19; p++) {
            Checks.due("all of t" + p, Checks.ask(x, "t" + p + all[p % 4]), 100);
            Checks.due("the first ARG of t" + p, Checks.ask(x, "t" + p + first[p % 4]), 10);
            Checks.due("the last ARG of t" + p, Checks.ask(x, "t" + p + last[p % 4]), 10);
        }
        for (int p = 0; p < 19; p += 6) {
            RoundReckoner y = Checks.ranOf(text.toString());
            String[] forms = {"(A,B)", "(B,A)", "(A,7,B)", "(B,A,B,A)"};
            for (int k = 0; k < 100; k += 7) {
                String a = "" + k / 10;
                String b = "" + k % 10;
                String atom = "t" + p + forms[p % 4].replace("A", a).replace("B", b);
                Checks.due("find " + atom, Checks.find(y, atom), 10 + p * 100 + k);
                Checks.due("ask ! " + atom, Checks.ask(y, "!" + atom), 0);
            }
        }
    }

    /** Rows that differ in one ARG alone stay apart, however many there are. */
    private static void manyRows() {
        String[] heads = {"r(A,B,# count)", "r(# count,B,A)", "r(A,5,B,# sum C)", "r(B,# max C,A,A)"};
        String[] tallies = {"2", "2", "5", "4"};
        for (int h = 0; h < heads.length; h++) {
            String head = heads[h];
            RoundReckoner x = Checks.ranOf(Checks.facts("v", 0, 43) + "c(1). c(4). " + head + " :- v(A), v(B), c(C).");
            Checks.due("TUPLES of " + head, x.count(5), 45 + 43 * 43);
            String one = head.replaceAll("# [a-z]+( C)?", tallies[h]).replace("A", "X").replace("B", "Y");
            Checks.due("each of " + head, Checks.ask(x, one), 43 * 43);
            for (int i = 45; i < 45 + 43 * 43; i += 97) {
                int a = (i - 45) / 43;
                int b = (i - 45) % 43;
                Checks.due("row " + i + " of " + head, Checks.find(x, one.replace("X", "" + a).replace("Y", "" + b)), i);
            }
        }
        RoundReckoner y = Checks.ranOf("n(0). n(N) :- n(M), N is M + 1, N < 999. c(1). c(4). r(A,# count) :- c(_), n(A).");
        Checks.due("TUPLES of one ARG", y.count(5), 2000);
        Checks.due("each of one ARG", Checks.ask(y, "r(_,2)"), 999);
    }

    /** "or rows of one #". */
    private static void rowLimit() {
        String rule = "r(A,B,C,# min N) :- a(A), b(B), c(C), n(N).";
        RoundReckoner x = Checks.toldOf("n(x)." + Checks.facts("a", 0, 10) + Checks.facts("b", 0, 10) + Checks.facts("c", 0, 20) + rule);
        Checks.due("2000 rows", x.run(), 41);
        Checks.tell(x, rule);
        Checks.due("2000 rows of each #", x.run(), 41);
        // 3 * 23 * 29 is 2001.
        RoundReckoner y = Checks.toldOf("n(x)." + Checks.facts("a", 0, 3) + Checks.facts("b", 0, 23) + Checks.facts("c", 0, 29) + rule);
        Checks.dueThrow("2001 rows", INDEX, y::run);
        Checks.due("no TUPLES", y.count(5), 0);
        Checks.untell(y, "c(28).");
        Checks.due("fewer rows", y.run(), 55);
        Checks.due("STEPS", y.count(6), 3 + 69 + 69 * 28 * 2);
        RoundReckoner z = Checks.toldOf("n(x)." + Checks.facts("a", 0, 10) + Checks.facts("b", 0, 10) + Checks.facts("c", 0, 20)
            + "r(A,B,C,# count) :- a(A), b(B), c(C).");
        Checks.dueThrow("2000 rows that are too many TUPLES", INDEX, z::run);
    }

    /** Which of the two limits is passed first decides what is thrown. */
    private static void whichLimitFirst() {
        String tuples = "t(A,B,C,D) :- d(A), d(B), d(C), d(D). ";
        String steps = "n(1) :- d(A), d(B), d(C), d(D), d(E), E < 0. ";
        Checks.dueThrow("TUPLES first", INDEX, Checks.toldOf(DIGITS + tuples + steps)::run);
        Checks.dueThrow("STEPS first", ARITHMETIC, Checks.toldOf(DIGITS + steps + tuples)::run);
        String thirteen = Checks.facts("m", 0, 13);
        String rows = "r(A,B,C,# count) :- m(A), m(B), m(C). ";
        String ways = "s(# count) :- m(A), m(B), m(C), m(D), m(E). ";
        Checks.dueThrow("rows first", INDEX, Checks.toldOf(thirteen + rows + ways)::run);
        Checks.dueThrow("STEPS of # first", ARITHMETIC, Checks.toldOf(thirteen + ways + rows)::run);
        Checks.dueThrow("no LAYERS ahead of all", UNSUPPORTED, Checks.toldOf(DIGITS + tuples + steps + "n(2) :- !n(3).")::run);
    }

    /** ask: "more than 50000 STEPS: ArithmeticException". */
    private static void askLimit() {
        RoundReckoner x = Checks.ranOf(DIGITS + Checks.facts("l", 0, 4));
        // 4 of l, and four times 11110.
        Checks.due("44444 STEPS", Checks.ask(x, "l(_), d(_), d(_), d(_), d(_)"), 40000);
        Checks.due("count", x.count(6), 44444);
        RoundReckoner y = Checks.ranOf(Checks.facts("m", 0, 223) + "z(1). z(2).");
        // 223 + 223 * 223 = 49952, and 48 of z.
        Checks.due("50000 STEPS", Checks.ask(y, "m(X), m(Y), X < 2, Y < 12, z(_)"), 48);
        Checks.due("their count", y.count(6), 50000);
        Checks.dueThrow("50001 STEPS", ARITHMETIC, () -> Checks.ask(y, "z(1), m(X), m(Y), X < 2, Y < 12, z(_)"));
        Checks.due("TAPE", y.count(0), 0);
        Checks.due("STEPS stay", y.count(6), 50000);
        Checks.due("TUPLES stay", y.count(5), 225);
        Checks.due("the answers stay", y.answer(47, 1), 11);
        Checks.due("STEPS begin anew", Checks.ask(y, "m(X), m(Y), X < 2, Y < 12, z(_)"), 48);
    }
}
