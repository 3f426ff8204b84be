/** The sentences of the document's Terms on texts, each at its edges: the last that may stand, the first that may not. */
public final class TextEdgesTest {
    private static final Class<?> INDEX = IndexOutOfBoundsException.class;
    private static final String TOLD = "e(1,2). f(a). ";
    private static final String TWELVE = "abcdefghijkl";
    private static final String THIRTEEN = "abcdefghijklm";

    private TextEdgesTest() {
    }

    public static void main(String[] args) {
        blanks();
        signs();
        clauseKinds();
        goalsOfARule();
        argsOfAHead();
        argsOfAnAtom();
        tallies();
        anythingSign();
        comparisons();
        reckonings();
        numbers();
        names();
        variableNames();
        variablesOfAClause();
        isIsNoName();
        knownOfValues();
        knownOfIs();
        knownOfNoAtoms();
        knownOfHeads();
        predicateLimit();
        predicatesOfReadingAlone();
        ruleLimit();
        factLimit();
        toldTwice();
        firstFaultAsOneReads();
        lookedAtAtTheStop();
        lacking();
        fullTape();
        Checks.finish("TextEdgesTest");
    }

    private static RoundReckoner told() {
        return Checks.ranOf(TOLD);
    }

    /** The text tells as many CLAUSES. */
    private static void well(String text, int clauses) {
        Checks.due("tell " + text, Checks.tell(told(), text), clauses);
    }

    private static void well(String text) {
        well(text, 1);
    }

    private static void broken(String marked) {
        RoundReckoner x = told();
        Checks.due("tell " + marked, Checks.tell(x, Checks.unmarked(marked)), -1 - Checks.place(marked));
        Checks.due("CLAUSES after " + marked, x.count(2) * 1000 + x.count(3), 2);
    }

    private static void asked(String text, int ways) {
        Checks.due("ask " + text, Checks.ask(told(), text), ways);
    }

    private static void askedBroken(String marked) {
        Checks.due("ask " + marked, Checks.ask(told(), Checks.unmarked(marked)), -1 - Checks.place(marked));
    }

    /** As GOALS of a RULE, and asked. */
    private static void goalsWell(String goals, int ways) {
        well("g(1) :- " + goals + ".");
        asked(goals, ways);
    }

    private static void goalsBroken(String marked) {
        broken("g(1) :- " + (marked.endsWith("^") ? marked : marked + "."));
        askedBroken(marked);
    }

    /** "blanks (10, 32) between all that follows where one likes": those two alone, and not inside of what belongs together. */
    private static void blanks() {
        for (int b = 0; b < 256; b++) {
            char c = (char) b;
            boolean blank = b == 10 || b == 32;
            Checks.due("byte " + b + " ahead", Checks.tell(told(), c + "."), blank ? -2 : -1 - (isFirst(c) ? 1 : 0));
            Checks.due("byte " + b + " between", Checks.tell(told(), "p(1" + c + ")."), blank ? 1 : c == ')' ? -5
                : c == ',' ? -5 : c >= '0' && c <= '9' ? 1 : -4);
            Checks.due("byte " + b + " behind", Checks.tell(told(), "p(1)." + c), blank ? 1 : isFirst(c) ? -7 : -6);
        }
        String spread = " h ( A , # sum B ) :- e ( A , B ) , ! f ( _ ) , A < B , A = A , A <> B , C is A + B , D is C - -1 , E is D * 2 . ";
        well(spread);
        well(spread.replace(' ', '\n'));
        well("h(A,#sum B):-e(A,B),!f(_),A<B,A=A,A<>B,C is A+B,D is C- -1,E is D*2.");
        well("h(A,#sumB):-e(A,B),!f(_),C is A+B,D is-1*C,E is D--2.");
        broken("h(1) :^ - e(1,2).");
        broken("h(1) :^\n- e(1,2).");
        goalsBroken("1 < ^> 2");
        broken("p(a ^b).");
        broken("p(1 ^2).");
        broken("p(^- 1).");
        goalsBroken("X ^i s 1 + 2");
        broken("p(# ^co unt) :- e(1,2).");
        well("", 0);
        well(" ", 0);
        well("\n", 0);
        askedBroken(" \n ^");
    }

    /** Whether a NAME begins so. */
    private static boolean isFirst(char c) {
        return c >= 'a' && c <= 'z';
    }

    /** A sign that is not the one which has to stand is BROKEN at itself. */
    private static void signs() {
        for (char c = 33; c < 127; c++) {
            if (c == '^') {
                continue;
            }
            if (c != '(' && !isFirst(c) && !(c >= '0' && c <= '9') && c != '_') {
                broken("p^" + c + "1).");
            }
            if (c != '.' && c != ':') {
                broken("p(1) ^" + c);
            }
            if (c != '-') {
                broken("p(1) :^" + c + " e(1,2).");
            }
            if (c != '<' && c != '=' && c != '(' && !(c >= '0' && c <= '9') && c != '_' && !isFirst(c)) {
                goalsBroken("a^" + c + "1");
            }
            if (c != ',' && c != '.') {
                broken("p(1) :- e(1,2) ^" + c + " e(1,2).");
            }
            if (c != ',') {
                askedBroken("e(1,2) ^" + c + " e(1,2)");
            }
            if (c != '+' && c != '-' && c != '*' && !(c >= '0' && c <= '9')) {
                goalsBroken("X is 1 ^" + c + " 2");
            }
        }
    }

    /** "CLAUSE: HEAD . (a FACT, of CONSTANTS alone) or HEAD :- GOAL , .. ." */
    private static void clauseKinds() {
        well("p(1). p(1) :- e(1,2). q(a,-1).p(2):-p(1).", 4);
        broken("p(^X).");
        broken("p(1,a,2,^X).");
        broken("p(1,^X,Y).");
        broken("p(^# count).");
        broken("p(1).^.");
        broken("^:- e(1,2).");
        broken("p(1) :- ^.");
        broken("p(1) :- ^:- e(1,2).");
        broken("^!p(1).");
        broken("e ^< 3.");
    }

    /** "(a RULE, 1 to 8 GOALS)", "GOALS (1 to 8, as of a RULE, nothing behind)". */
    private static void goalsOfARule() {
        goalsBroken("^");
        for (int many = 1; many <= 8; many++) {
            goalsWell("1 < 2" + Checks.times(many - 1, ", e(_,_)"), 1);
        }
        goalsBroken("1 < 2" + Checks.times(7, ", e(_,_)") + ", ^e(_,_)");
        goalsBroken("1 < 2" + Checks.times(7, ", e(_,_)") + ", ^1 < 2");
        goalsBroken("1 < 2" + Checks.times(7, ", !e(3,_)") + ",^?");
        goalsBroken("1 < 2" + Checks.times(7, ", !e(3,_)") + ",^");
        askedBroken("e(1,2)^.");
        askedBroken("e(1,2),^");
        askedBroken("e(1,2) ^e(1,2)");
        broken("p(1) :- e(1,2),^.");
    }

    /** "HEAD: NAME ( 1 to 4 ARGS )". */
    private static void argsOfAHead() {
        broken("p(^).");
        broken("p(^) :- e(1,2).");
        well("p(1). p(1,2). p(1,2,3). p(1,2,3,4).", 4);
        well("p(X) :- e(X,_). p(X,X) :- e(X,_). p(X,X,X) :- e(X,_). p(X,X,X,X) :- e(X,_).", 4);
        broken("p(1,2,3,4,^5).");
        broken("p(1,2,3,4,^X) :- e(X,_).");
        broken("p(1,2,3,4, \n ^# count) :- e(1,2).");
        broken("p(1,2,3,4,^");
        broken("p(1,2,3,4 ^5");
        broken("p(1,^,2).");
        broken("p(^,2).");
        broken("p(1,^).");
    }

    /** "ATOM: NAME ( 1 to 4 ARGS ); ! ATOM". */
    private static void argsOfAnAtom() {
        for (String not : new String[] {"", "!"}) {
            goalsBroken(not + "e(^)");
            goalsBroken(not + "e(1,2,3,4,^5)");
            goalsBroken(not + "e(1,2,3,4,^_)");
            goalsBroken(not + "e(1,2,3,4,^");
            goalsBroken(not + "e(1,2,^)");
            goalsBroken(not + "e(1,2 ^_)");
            well("p(1) :- " + not + "h(1), " + not + "h(1,_), " + not + "h(1,2,3), " + not + "h(_,_,_,_).");
            goalsWell(not + "e(1,2)", not.isEmpty() ? 1 : 0);
        }
        goalsBroken("!^!e(1,2)");
        goalsBroken("!^X < 3");
        goalsBroken("!^1 < 3");
        goalsBroken("!^(e(1,2))");
        goalsBroken("!e ^= 3");
    }

    /** "in a RULE one ARG may be # count, or # sum V, # min V, # max V with a VARIABLE V". */
    private static void tallies() {
        String[] at = {"@", "1,@", "1,X,@", "X,1,X,@", "@,X", "@,X,2,X"};
        String[] tallies = {"# count", "# sum Y", "# min Y", "# max Y", "#sum X"};
        for (String args : at) {
            for (String tally : tallies) {
                well("p(" + args.replace("@", tally) + ") :- e(X,Y).");
                broken("p(" + args.replace("X", "3").replace("@", "^" + tally) + ").");
                broken(("p(" + args + ",^# count) :- e(X,Y).").replace("@", tally));
            }
        }
        broken("p(# ^coun) :- e(1,2).");
        broken("p(# ^counts) :- e(1,2).");
        broken("p(# ^su X) :- e(X,_).");
        broken("p(# ^sums X) :- e(X,_).");
        broken("p(# ^is X) :- e(X,_).");
        broken("p(# ^min_ X) :- e(X,_).");
        broken("p(# ^max1 X) :- e(X,_).");
        broken("p(# ^Max) :- e(Max,_).");
        broken("p(# ^1) :- e(1,_).");
        broken("p(# ^# count) :- e(1,_).");
        broken("p(# count ^Y) :- e(_,Y).");
        for (String word : new String[] {"sum", "min", "max"}) {
            broken("p(# " + word + " ^) :- e(1,2).");
            broken("p(# " + word + " ^y) :- e(1,2).");
            broken("p(# " + word + " ^1) :- e(1,2).");
            broken("p(# " + word + " ^_) :- e(1,2).");
            broken("p(# " + word + " Y ^Z) :- e(Y,Z).");
            broken("p(# " + word + " ^");
        }
        goalsBroken("e(1,^# count)");
        goalsBroken("!e(1,^# count)");
        goalsBroken("1 < ^# count");
        goalsBroken("^# count < 2");
        well("p(count,sum,min,max). count(1). sum(min) :- max(2).", 3);
    }

    /** "_ (in GOALS alone; each stands for anything)": of ATOMS, not of HEADS or VALUES; two need not be the same. */
    private static void anythingSign() {
        broken("p(^_).");
        broken("p(^_) :- e(_,_).");
        broken("p(1,2,3,^_) :- e(_,_).");
        goalsBroken("1 < ^_");
        goalsBroken("^_ < 1");
        goalsBroken("^_ is 1 + 2");
        goalsBroken("X is ^_ + 2");
        goalsBroken("X is 2 + ^_");
        goalsBroken("e(_ ^a,1)");
        goalsBroken("e(_ ^_,1)");
        goalsWell("e(_,_)", 1);
        goalsWell("!e(_,_)", 0);
        goalsWell("e(A,B), e(C,D), e(E,F), e(G,H), e(_,_), !e(_,1)", 1);
        Checks.due("_ and _", Checks.ask(Checks.ranOf("q(1,1). q(1,2)."), "q(_,_)"), 2);
    }

    /** "VALUE < VALUE, VALUE = VALUE, VALUE <> VALUE": each of NAMES, numbers and VARIABLES; no other sign. */
    private static void comparisons() {
        for (String sign : new String[] {"<", "=", "<>"}) {
            for (String left : new String[] {"X", "a", "7", "-7"}) {
                for (String right : new String[] {"Y", "b", "8", "-8"}) {
                    well("p(1) :- e(X,Y), " + left + sign + right + ".");
                    well("p(1) :- e(X,Y), " + left + " " + sign + "\n" + right + " .");
                }
            }
            goalsBroken("1 " + sign + "^");
            goalsBroken("1 " + sign + " ^, 2 = 2");
            goalsBroken("1 " + sign + " ^(");
            goalsBroken("1 " + sign + " ^!e(1,2)");
            goalsBroken("1 " + sign + " e^(1,2)");
            goalsBroken("1 " + sign + " 2 ^" + sign + " 3");
            goalsBroken("1 " + sign + " 2 ^+ 3");
        }
        goalsBroken("1 ^> 2");
        goalsBroken("1 ^>< 2");
        goalsBroken("1 <^= 2");
        goalsBroken("1 =^= 2");
        goalsBroken("1 =^< 2");
        goalsBroken("1 <>^> 2");
        goalsBroken("1 <>^= 2");
        goalsBroken("1 ^! 2");
        goalsBroken("1 ^2");
        goalsBroken("1 ^is 2 + 3");
        goalsBroken("a ^is 2 + 3");
    }

    /** "VARIABLE is VALUE + VALUE, - or * for +". */
    private static void reckonings() {
        for (String sign : new String[] {"+", "-", "*"}) {
            for (String left : new String[] {"X", "a", "7", "-7"}) {
                for (String right : new String[] {"Y", "b", "8", "-8"}) {
                    well("p(Z) :- e(X,Y), Z is " + left + sign + right + ".");
                }
            }
            goalsBroken("Z is 1 " + sign + "^");
            goalsBroken("Z is 1 " + sign + " ^, 1 = 1");
            goalsBroken("Z is ^" + (sign.equals("-") ? "- " : sign) + " 1");
            goalsBroken("Z is 1 " + sign + " 2 ^" + sign + " 3");
            goalsBroken("Z is 1 " + sign + " 2 ^< 3");
        }
        goalsBroken("Z is^");
        goalsBroken("Z is 1^");
        goalsBroken("Z is ^(1 + 2)");
        goalsBroken("Z is 1 ^= 2");
        goalsBroken("Z is 1 ^is 2");
        goalsBroken("Z is ^# count");
        goalsBroken("Z is e^(1,2)");
        goalsBroken("1 = ^Z is 1 + 2");
        goalsWell("Z is -1--1", 1);
        goalsWell("Z is -1-1", 1);
    }

    /** "a number ([-] 1 to 7 digits)". */
    private static void numbers() {
        String[] digits = {"0", "00", "000", "0000", "00000", "000000", "0000000"};
        for (String zeros : digits) {
            well("p(" + zeros + ").");
            well("p(-" + zeros + ").");
        }
        broken("p(^00000000).");
        broken("p(^-00000000).");
        broken("p(^10000000).");
        broken("p(^-10000000).");
        broken("p(^123456789012345678901234567890).");
        broken("p(^-).");
        broken("p(^-,1).");
        broken("p(^--1).");
        broken("p(^-a).");
        broken("p(^-X) :- e(X,_).");
        broken("p(^+1).");
        broken("p(1^-1).");
        broken("p(1^.5).");
        broken("p(1^_).");
        broken("p(1^a).");
        broken("p(1^A).");
        goalsBroken("^10000000 = 1");
        goalsBroken("1 = ^10000000");
        goalsBroken("e(1,^-10000000)");
        goalsBroken("!e(1,^10000000)");
        goalsBroken("X is ^10000000 + 1");
        goalsBroken("X is 1 - ^-10000000");
        goalsBroken("1 < ^-");
        RoundReckoner x = Checks.ranOf("p(9999999,-9999999,0000012,-0). p(-0000001,007,-7,0).");
        long[] due = {9999999, -9999999, 12, 0, -1, 7, -7, 0};
        for (int k = 0; k < 8; k++) {
            Checks.due("number " + k, x.tuple(k / 4, k % 4), due[k]);
        }
        Checks.due("-0 is 0", Checks.find(x, "p(9999999,-9999999,12,0)"), 0);
        Checks.due("-0 and 0 told", Checks.tell(x, "z(0). z(-0). z(00)."), 3);
        Checks.due("one FACT of the three", x.count(3), 3);
    }

    /** "NAME: a small letter, then small letters, digits, _ , at most 12 bytes". */
    private static void names() {
        well("a(a).");
        well("z(z).");
        well("a0_9z(a0_9z).");
        well("a___________(z99999999999).");
        for (String word : new String[] {TWELVE, "a_0123456789"}) {
            well(word + "(" + word + ").");
            well("p(1) :- " + word + "(" + word + "), !" + word + "(1), " + word + " = " + word + ", X is " + word + " + 1.");
            broken("^" + word + "x(1).");
            broken("^" + word + "_(1).");
            broken("p(^" + word + "9).");
            broken("p(1,2,^" + word + "9");
            goalsBroken("^" + word + "0(1)");
            goalsBroken("!^" + word + "0(1)");
            goalsBroken("f(^" + word + "0)");
            goalsBroken("^" + word + "0 = 1");
            goalsBroken("1 = ^" + word + "0");
            goalsBroken("X is ^" + word + "0 + 1");
            goalsBroken("X is 1 * ^" + word + "0");
        }
        broken("^" + THIRTEEN);
        broken("^" + Checks.times(200, "abc"));
        broken("p(^" + Checks.times(200, "abc") + ").");
        broken("^_a(1).");
        broken("^0a(1).");
        broken("^A(1).");
        broken("p(1). ^Pq(1).");
        broken("a^B(1).");
        broken("p(a^B).");
        for (char c : new char[] {'`', '{', '@', '[', '/', ';', '\u00e4', '\u00ff', '\u0080'}) {
            broken("^" + c + "(1).");
            broken("p(^" + c + ").");
            broken("p(a^" + c + ").");
        }
        RoundReckoner x = Checks.ranOf("p(a_0123456789). p(a). p(aa). p(a_). p(a0). p(z). p(zzzzzzzzzzzz). p(" + TWELVE + ").");
        Checks.dueText("NAMES shown", Checks.allShown(x), "p(a_0123456789) p(a) p(aa) p(a_) p(a0) p(z) p(zzzzzzzzzzzz) p(" + TWELVE + ")");
        Checks.due("NAMES", x.count(9), 8);
    }

    /** "VARIABLE: a capital, then likewise". */
    private static void variableNames() {
        for (String word : new String[] {"A", "Z", "Aa", "Z_", "X0", "Abcdefghijkl", "Z_0123456789"}) {
            well("p(" + word + ",# sum " + word + ") :- e(" + word + ",_), " + word + " = " + word + ", !f(" + word + "), Y is " + word + " + 1.");
            well("p(" + word + ") :- " + word + " is 1 + 2.");
        }
        for (String word : new String[] {"Abcdefghijklm", "Z_01234567890"}) {
            broken("p(^" + word + ") :- e(1,2).");
            broken("p(# max ^" + word + ") :- e(1,2).");
            goalsBroken("e(^" + word + ",1)");
            goalsBroken("!e(^" + word + ",1)");
            goalsBroken("^" + word + " < 1");
            goalsBroken("^" + word + " is 1 + 2");
            goalsBroken("1 < ^" + word);
            goalsBroken("X is ^" + word + " + 1");
            goalsBroken("X is 1 + ^" + word);
        }
        broken("p(X^Y) :- e(X,Y).");
        broken("p(X ^Y) :- e(X,Y).");
        broken("^X(1).");
        goalsBroken("!^X(1)");
        Checks.due("VARIABLES differ in one byte", Checks.ask(Checks.ranOf("e(1,2)."), "e(Xa,Xb), Xa < Xb"), 1);
        Checks.due("VARIABLE and NAME of the same letters", Checks.ask(Checks.ranOf("e(x,x)."), "e(X,x), X = x"), 1);
    }

    /** "at most 8 in a CLAUSE". */
    private static void variablesOfAClause() {
        goalsWell("e(A,B), e(C,D), e(E,F), e(G,H), e(A,H)", 1);
        goalsBroken("e(A,B), e(C,D), e(E,F), e(G,H), e(^I,_)");
        goalsBroken("e(A,B), e(C,D), e(E,F), e(G,H), !e(1,^I)");
        goalsBroken("e(A,B), e(C,D), e(E,F), e(G,H), ^I is 1 + 2");
        goalsBroken("e(A,B), e(C,D), e(E,F), e(G,H), ^I = 2");
        goalsBroken("e(A,B), e(C,D), e(E,F), e(G,H), 2 = ^I");
        goalsWell("e(A,B), e(C,D), e(E,F), G is 1 + 2, !e(1,H), !e(A,2), A = B", 0);
        goalsBroken("e(A,B), e(C,D), e(E,F), G is 1 + 2, !e(1,H), !e(^I,2)");
        broken("p(A,B,C,D) :- e(E,F), e(G,H), e(1,^I).");
        broken("p(A,B,C,# max D) :- e(E,F), e(G,H), e(1,^I).");
        well("p(A,B,C,D) :- e(A,B), e(C,D), e(E,F), e(G,H). q(I,J,K,# sum L) :- e(I,J), e(K,L), e(M,N), e(O,P).", 2);
        well("p(A) :- e(A,B), e(C,D). p(E) :- e(E,F), e(G,H). p(I) :- e(I,J). p(K) :- e(K,K).", 4);
    }

    /** "(is is no NAME behind a VARIABLE at a GOAL'S beginning.)" */
    private static void isIsNoName() {
        well("is(is). is(X,is) :- is(X), X = is, is <> X, X <> is, is < is, Y is is + is, !is(Y).", 2);
        well("p(is) :- is(is). is(# count) :- is(is).", 2);
        well("p(Is) :- Is is 1 + 2.");
        well("p(X) :- X is is - is.");
        broken("p(X) :- X is is ^1 + 2.");
        goalsBroken("X ^iss 1 + 2");
        goalsBroken("X ^is3 + 2");
        goalsBroken("X ^is_ 1 + 2");
        goalsBroken("X ^i 1 + 2");
        goalsBroken("X ^isis 1 + 2");
        goalsBroken("is ^is 1 + 2");
        goalsWell("X is-1+2", 1);
        well("p(Y) :- e(X,_), Y is X+1.");
        well("p(Y) :- e(X,_), Y isX+1.");
    }

    /** "A GOAL KNOWS the VARIABLES of ATOMS (without !), and of is, in GOALS ahead of it. Those of a VALUE have to be KNOWN". */
    private static void knownOfValues() {
        for (String sign : new String[] {"<", "=", "<>"}) {
            goalsBroken("^X " + sign + " 1");
            goalsBroken("1 " + sign + " ^X");
            goalsBroken("^X " + sign + " X");
            goalsBroken("e(X,_), X " + sign + " ^Y");
            goalsBroken("e(X,_), ^Y " + sign + " X");
            goalsBroken("^X " + sign + " 1, e(X,_)");
            goalsBroken("!e(X,_), ^X " + sign + " 1");
            well("p(1) :- e(X,_), X " + sign + " X.");
            well("p(1) :- X is 1 + 2, X " + sign + " 1.");
        }
        for (String sign : new String[] {"+", "-", "*"}) {
            goalsBroken("Z is ^X " + sign + " 1");
            goalsBroken("Z is 1 " + sign + " ^X");
            goalsBroken("Z is ^Z " + sign + " 1");
            goalsBroken("Z is 1 " + sign + " ^Z");
            goalsBroken("Z is ^X " + sign + " 1, e(X,_)");
            goalsBroken("!e(X,_), Z is ^X " + sign + " 1");
            well("p(Z) :- e(X,_), Z is X " + sign + " X.");
            well("p(Z) :- X is 1 + 2, Z is X " + sign + " X.");
        }
        broken("p(X) :- ^X < 1, e(X,_).");
        broken("p(X) :- e(X,_). p(Y) :- 1 = ^X.");
    }

    /** "that of is must not be KNOWN". */
    private static void knownOfIs() {
        goalsBroken("e(X,_), ^X is 1 + 2");
        goalsBroken("e(X,_), ^X is X + 2");
        goalsBroken("e(_,X), ^X is ?");
        goalsBroken("X is 1 + 2, ^X is 1 + 2");
        goalsWell("X is 1 + 2, Y is X + X, Z is X * Y", 1);
        well("p(X) :- X is 1 + 2.");
        well("p(X) :- X is 1 + 2, e(X,X), !e(X,X).");
        well("p(# sum X) :- X is 1 + 2.");
        broken("p(X) :- X is 1 + 2. q(Y) :- e(Y,_), ^Y is 1 + 2.");
        well("p(X) :- e(X,_). q(X) :- X is 1 + 2.", 2);
    }

    /** "and those of ! ATOM (or stand in no other place of the CLAUSE: then anything)". */
    private static void knownOfNoAtoms() {
        goalsWell("!e(X,Y)", 0);
        goalsWell("!e(3,Y)", 1);
        goalsWell("e(X,_), !e(X,X)", 1);
        goalsWell("X is 1 + 0, !e(X,3)", 1);
        goalsBroken("!e(^X,X)");
        goalsBroken("!e(_,^X), !e(_,X)");
        goalsBroken("!e(_,^X), e(X,_)");
        goalsBroken("!e(_,^X), X is 1 + 2");
        goalsBroken("!e(_,^X), X is 1 + 2, X = 3");
        goalsBroken("e(A,_), !e(A,^X), !e(X,A)");
        goalsBroken("!e(Y,1), !e(_,^X), e(X,_)");
        broken("p(X) :- !e(^X,1), e(X,_).");
        broken("p(# sum X) :- !e(^X,1), e(X,_).");
        broken("p(1) :- !e(X,1). q(1) :- !e(^X,X).");
        well("p(1) :- !e(X,1). q(X) :- e(X,_), !e(X,X).", 2);
    }

    /** "those of the HEAD have to be KNOWN behind all GOALS". */
    private static void knownOfHeads() {
        for (String args : new String[] {"@", "1,@", "a,1,@", "1,2,3,@", "@,Y", "Y,@,Y"}) {
            well("p(" + args.replace("@", "X") + ") :- e(Y,X).");
            well("p(" + args.replace("@", "X") + ") :- e(Y,_), X is 1 + 2.");
            broken("p(" + args.replace("@", "^X") + ") :- e(Y,_).");
            broken("p(" + args.replace("@", "^X") + ") :- e(Y,_), !f(X).");
            broken("p(" + args.replace("@", "# sum ^X") + ") :- e(Y,_).");
            broken("p(" + args.replace("@", "# min ^X") + ") :- e(Y,_), !f(X).");
            well("p(" + args.replace("@", "# max X") + ") :- e(Y,X).");
        }
        broken("p(^X,Y,Z) :- 1 = 1.");
        broken("p(X,^Y,Z) :- e(X,_).");
        broken("p(X) :- e(X,_). p(^X) :- e(_,_).");
    }

    private static String predicates(int many) {
        StringBuilder text = new StringBuilder();
        for (int k = 0; k < many; k++) {
            text.append("n").append(k / 4).append("(1,2,3,4".substring(0, 3 + k % 4 * 2 - 1)).append(").");
        }
        return text.toString();
    }

    /** "PREDICATES: NAMES with as many ARGS, of HEADS and ATOMS, at most 20", "a PREDICATE: its NAME", "when its ) .. is read". */
    private static void predicateLimit() {
        RoundReckoner full = new RoundReckoner();
        Checks.due("20 PREDICATES in one text", Checks.tell(full, predicates(20)), 20);
        Checks.due("count", full.count(4), 20);
        Checks.due("PREDICATE 21", Checks.tell(full, "n9(1)."), -1);
        Checks.due("none more", full.count(4), 20);
        full.run();
        Checks.due("the last one's TUPLE", full.tuple(19, 4), 19);
        Checks.due("the last one's LAYER", full.layer(19), 0);
        Checks.dueThrow("LAYER of PREDICATE 20", INDEX, () -> full.layer(20));
        Checks.due("those that are there", Checks.tell(full, "n0(7) :- n1(7,7), !n4(7,7,7,7)."), 1);
        String[] marked = {"^n9(1).", "n0(1). ^n9(1).", "n0(1,1,1,1,^1).", "^x(X).", "^x(X) ?", "x(X^",
            "n0(1) :- ^x(1).", "n0(1) :- !^x(1) ?", "n0(1) :- n0(1), ^x(1), x", "^x(1) :- y(1).", "n0(X) :- ^n9(Y) ?", "n0(1) :- x(1 ^?",
            "n0(1) :- x(1,^", "^x(# sum X) ?", "n0(1) :- 1 < 2, ! ^n5(_)."};
        for (String text : marked) {
            RoundReckoner x = Checks.toldOf(predicates(20));
            Checks.due("with 20: " + text, Checks.tell(x, Checks.unmarked(text)), -1 - Checks.place(text));
            Checks.due("PREDICATES behind " + text, x.count(4), 20);
            Checks.due("FACTS behind " + text, x.count(3), 20);
        }
        RoundReckoner x = Checks.toldOf(predicates(18));
        Checks.due("19, 20, 21", Checks.tell(x, "a(1) :- b(1), c(1)."), -1 - 14);
        Checks.due("back to 18", x.count(4), 18);
        Checks.due("19, 20", Checks.tell(x, "a(1) :- b(1), a(2)."), 1);
        Checks.due("20", x.count(4), 20);
        Checks.due("a CLAUSE gone", x.drop(0), 0);
        Checks.due("PREDICATES stay", Checks.tell(x, "c(1)."), -1);
        Checks.due("b is PREDICATE 19", Checks.tell(x, "b(5)."), 1);
        x.run();
        Checks.due("b's TUPLE", x.tuple(18, 4), 19);
    }

    /** Only tell brings PREDICATES: untell and find take any, and ask's have to be there. */
    private static void predicatesOfReadingAlone() {
        RoundReckoner x = Checks.ranOf(predicates(20));
        Checks.due("untell of PREDICATE 21", Checks.untell(x, "x(1)."), 0);
        Checks.due("find of PREDICATE 21", Checks.find(x, "x(1)"), -1);
        Checks.due("ask of PREDICATE 21", Checks.ask(x, "n0(1), x(1)"), -1 - 7);
        Checks.due("ask of a PREDICATE with other ARGS", Checks.ask(x, "n0(1), n0(1,2,3,4), n5(1)"), -1 - 20);
        Checks.due("ask ! of PREDICATE 21", Checks.ask(x, "! x(1)"), -1 - 2);
        Checks.due("PREDICATES", x.count(4), 20);
        RoundReckoner y = Checks.ranOf("p(1).");
        Checks.due("untell", Checks.untell(y, "q(1)."), 0);
        Checks.due("find", Checks.find(y, "q(1)"), -1);
        Checks.due("ask", Checks.ask(y, "q(1)"), -1);
        Checks.due("PREDICATES still", y.count(4), 1);
    }

    /** "at most 60 RULES", "a CLAUSE that is one too many: at its NAME". */
    private static void ruleLimit() {
        RoundReckoner x = Checks.toldOf("e(1,2)." + Checks.times(58, "p(X) :- e(X,_)."));
        Checks.due("RULES 59, 60, 61", Checks.tell(x, "p(1) :- 1 = 1. p(2) :- 1 = 1. \n p(3) :- 1 = 1."), -1 - 32);
        Checks.due("none of them", x.count(2), 58);
        Checks.due("RULES 59, 60", Checks.tell(x, "p(1) :- 1 = 1. p(2) :- 1 = 1."), 2);
        Checks.due("60", x.count(2), 60);
        Checks.due("RULE 61", Checks.tell(x, "p(3) :- 1 = 1."), -1);
        Checks.due("a FACT and RULE 61", Checks.tell(x, "e(3,4). q(3) :- 1 = 1."), -1 - 8);
        Checks.due("still 60, and one FACT", x.count(2) * 1000 + x.count(3), 60001);
        Checks.due("a RULE told twice is two", Checks.tell(x, "p(X) :- e(X,_)."), -1);
        Checks.due("a FACT may come", Checks.tell(x, "e(3,4)."), 1);
        x.run();
        Checks.due("the last RULE", x.tuple(x.count(5) - 1, 7), 59);
        Checks.dueThrow("drop 60", INDEX, () -> x.drop(60));
        Checks.due("drop 59", x.drop(59), 59);
        Checks.due("room again", Checks.tell(x, "p(3) :- 1 = 1."), 1);
        Checks.due("60 again", x.count(2), 60);
    }

    /** "400 FACTS". */
    private static void factLimit() {
        RoundReckoner x = Checks.toldOf(Checks.facts("f", 0, 200));
        Checks.tell(x, Checks.facts("f", 200, 398));
        Checks.due("FACTS 399, 400, 401", Checks.tell(x, "f(398). f(399).  f(400)."), -1 - 17);
        Checks.due("none of them", x.count(3), 398);
        Checks.due("FACTS 399, 400", Checks.tell(x, "f(398). f(399)."), 2);
        Checks.due("400", x.count(3), 400);
        Checks.due("FACT 401", Checks.tell(x, "f(400)."), -1);
        Checks.due("FACT 401 of a new PREDICATE", Checks.tell(x, " g(a)."), -2);
        Checks.due("PREDICATES", x.count(4), 1);
        Checks.due("FACTS that are there", Checks.tell(x, "f(0). f(399)."), 2);
        Checks.due("a RULE may come", Checks.tell(x, "h(X) :- f(X), X < 1."), 1);
        Checks.due("run", x.run(), 401);
        Checks.due("untell", Checks.untell(x, "f(7)."), 1);
        Checks.due("room again", Checks.tell(x, "f(400)."), 1);
        Checks.due("400 again", x.count(3), 400);
        Checks.due("untold is not told", Checks.tell(x, "f(7)."), -1);
    }

    /** "(told twice: one)". */
    private static void toldTwice() {
        RoundReckoner x = Checks.toldOf("p(a). p(b). p(a). p(a,a). p(-0). p(0). p(00).");
        Checks.due("FACTS", x.count(3), 4);
        Checks.due("told in another text", Checks.tell(x, " p ( a ) . p(b).p(c)."), 3);
        Checks.due("one more", x.count(3), 5);
        x.run();
        Checks.dueText("as first told", Checks.allShown(x), "p(a) p(b) p(a,a) p(0) p(c)");
        Checks.due("untold once", Checks.untell(x, "p(a)."), 1);
        Checks.due("untold twice", Checks.untell(x, "p(a)."), 0);
        Checks.due("RULES told twice", Checks.tell(x, "q(1) :- p(1). q(1) :- p(1)."), 2);
        Checks.due("are two", x.count(2), 2);
    }

    /** "As one reads": what comes first in the text is told, even if what stands ahead of it turns out BROKEN later. */
    private static void firstFaultAsOneReads() {
        broken("p(X,^!");
        broken("p(X) ^?");
        broken("p(X) :^?");
        broken("p(X) :- e(1,^!");
        broken("p(X) :- e(1,2) ^?");
        broken("p(X) :- !e(Y,Y), ^?");
        broken("p(X) :- !e(Y,Y), ^Z < 1.");
        goalsBroken("X ^?");
        goalsBroken("X^");
        goalsBroken("^X < ?");
        goalsBroken("^X =");
        goalsBroken("^X <> ?");
        goalsBroken("e(X,_), X^");
        goalsBroken("e(X,_), X ^?");
        goalsBroken("e(X,_), ^X is");
        goalsBroken("e(X,_), ^X is ?");
        goalsBroken("e(X,_), X ^isx");
        goalsBroken("e(A,B), e(C,D), e(E,F), e(G,H), I^");
        goalsBroken("e(A,B), e(C,D), e(E,F), e(G,H), I ^?");
        goalsBroken("e(A,B), e(C,D), e(E,F), e(G,H), ^I is ?");
        goalsBroken("1 < ^X ?");
        goalsBroken("Z is ^X ?");
        goalsBroken("Z is 1 + ^X ?");
        askedBroken("e(1, ^?");
        askedBroken("^h(1) ?");
        askedBroken("^h(X), X <");
        askedBroken("h(1^");
        broken("p(^X). ?");
        broken("p(X)^");
        broken("p(1). p(^X). p(Y).");
    }

    /** "is looked at when the . is read, or a text of GOALS ends: the first of them by place". */
    private static void lookedAtAtTheStop() {
        broken("p(^X) :- !e(Y,Y).");
        broken("p(1,^X) :- !e(X,1).");
        broken("p(1) :- !e(^X,X), !e(Y,Y).");
        broken("p(Z) :- e(Z,_), !e(Z,^X), !e(Y,X), !e(Y,1).");
        broken("p(Z) :- !e(^Z,Y), !e(Y,1), e(Z,_).");
        broken("p(# max ^X,Y) :- e(1,2).");
        broken("p(^Y,# max X) :- e(1,2).");
        broken("p(Y,# max ^X) :- e(Y,2).");
        broken("p(^X) :- e(1,2). ?");
        broken("p(1) :- !e(^X,X). ?");
        goalsBroken("!e(^X,X), !e(Y,Y)");
        goalsBroken("!e(Y,1), !e(^X,2), e(X,_)");
        askedBroken("!e(X,X) ^.");
        askedBroken("!e(X,X),^");
    }

    /** "the length, if something lacks": wherever a text is cut off inside a CLAUSE; blanks behind count. */
    private static void lacking() {
        String[] cut = {"p", "p(", "p(1", "p(1,", "p(1,2", "p(1)", "p(X", "p(#", "p(# count", "p(# sum", "p(# sum X", "p(X) :", "p(X) :-",
            "p(X) :- e", "p(X) :- e(", "p(X) :- e(1", "p(X) :- e(1,", "p(X) :- e(1,2", "p(X) :- e(1,2)", "p(X) :- e(X,2),", "p(X) :- !",
            "p(X) :- !e", "p(X) :- !e(", "p(X) :- !e(1,2)", "p(X) :- 1", "p(X) :- a", "p(X) :- X", "p(X) :- 1 <", "p(X) :- 1 =", "p(X) :- 1 <>",
            "p(X) :- 1 < 2", "p(X) :- X is", "p(X) :- X is 1", "p(X) :- X is 1 +", "p(X) :- X is 1 + 2", "p(X) :- X is 1 + 2,"};
        for (String text : cut) {
            broken(text + "^");
            if (!text.endsWith(":")) {
                broken(text + " ^");
                broken(text + "\n \n^");
            }
            broken("e(5,5). " + text + "^");
        }
        Checks.due("untell nothing", Checks.untell(told(), ""), -1);
        Checks.due("untell blanks", Checks.untell(told(), "  "), -3);
        Checks.due("untell without .", Checks.untell(told(), "e(1,2)"), -7);
        Checks.due("untell without . but a blank", Checks.untell(told(), "e(1,2) "), -8);
        Checks.due("find nothing", Checks.find(told(), ""), -2);
        Checks.due("find blanks", Checks.find(told(), "  "), -4);
        Checks.due("find without )", Checks.find(told(), "e(1,2"), -7);
        Checks.due("ask nothing", Checks.ask(told(), ""), -1);
        Checks.due("ask blanks", Checks.ask(told(), "  "), -3);
    }

    /** A text that fills all 2000 bytes, and one that is BROKEN at the last of them or behind it. */
    private static void fullTape() {
        String facts = "f(1)." + Checks.times(1989, " ");
        RoundReckoner x = new RoundReckoner();
        Checks.due("2000 bytes", Checks.tell(x, facts + "f(22)."), 2);
        Checks.due("its last byte", Checks.tell(x, facts + "f(33)?"), -1 - 1999);
        Checks.due("behind its last byte", Checks.tell(x, facts + "f(333)"), -1 - 2000);
        Checks.due("FACTS", x.count(3), 2);
        Checks.due("blanks alone", Checks.tell(told(), Checks.times(2000, "\n")), 0);
        Checks.due("a NAME to the end", Checks.tell(told(), Checks.times(1988, " ") + TWELVE), -1 - 2000);
        Checks.due("a NAME too long to the end", Checks.tell(told(), Checks.times(1987, " ") + THIRTEEN), -1 - 1987);
        Checks.due("the whole a NAME", Checks.tell(told(), Checks.times(2000, "a")), -1);
        Checks.due("the whole digits", Checks.tell(told(), "f(" + Checks.times(1998, "1")), -1 - 2);
    }
}
