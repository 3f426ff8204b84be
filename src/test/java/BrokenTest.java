/** Texts that are BROKEN, each with its PLACE: marked by ^ ahead of the byte, or at the end if something lacks. */
public final class BrokenTest {
    private static final String TOLD = "e(1,2). f(a). ";

    private BrokenTest() {
    }

    public static void main(String[] args) {
        signs();
        words();
        heads();
        goals();
        variables();
        laterLooks();
        order();
        facts();
        names();
        Checks.finish("BrokenTest");
    }

    private static void tell(String marked) {
        int place = marked.indexOf('^');
        String text = marked.replace("^", "");
        RoundReckoner x = Checks.toldOf(TOLD);
        x.run();
        Checks.due("tell " + marked, Checks.tell(x, text), -1 - place);
        Checks.due("tape after " + marked, x.count(0), 0);
        Checks.due("RULES after " + marked, x.count(2), 0);
        Checks.due("FACTS after " + marked, x.count(3), 2);
        Checks.due("PREDICATES after " + marked, x.count(4), 2);
        Checks.due("the run after " + marked, x.count(5), 2);
    }

    /** The GOALS are asked, and told in a RULE with the . behind them. */
    private static void both(String marked) {
        RoundReckoner x = Checks.ranOf(TOLD);
        Checks.due("ask " + marked, Checks.ask(x, marked.replace("^", "")), -1 - marked.indexOf('^'));
        tell("g(1) :- " + (marked.endsWith("^") ? marked : marked + "."));
    }

    private static void well(String text) {
        RoundReckoner x = Checks.toldOf(TOLD);
        Checks.due("tell " + text, Checks.tell(x, text), 1);
    }

    private static void signs() {
        tell("^.");
        tell("^)");
        tell("^\t");
        tell("^1");
        tell("^_");
        tell("^\u00ff");
        tell("^\0");
        tell("p^");
        tell("p ^");
        tell("p ^.");
        tell("p(^");
        tell("p(^)");
        tell("p(^,1).");
        tell("p(1^");
        tell("p(1 ^2");
        tell("p(1,^");
        tell("p(1,^)");
        tell("p(1,^,");
        tell("p(1)^");
        tell("p(1) ^,");
        tell("p(1) ^- 1");
        tell("p(1) :^");
        tell("p(1) :^ - e(1,2).");
        tell("p(1) :^:- e(1,2).");
        tell("p(1) :-^");
        tell("p(1) :-^.");
        tell("p(1) :- ^,");
        tell("p(1) :- e(1,2)^");
        tell("p(1) :- e(1,2),^");
        tell("p(1) :- e(1,2),^.");
        tell("p(1) :- e(1,2) ^:- e(1,2).");
        tell("p(1). p(2). p^");
        tell("p(1).^.");
        tell("p(1). ^X(2).");
        tell("e(7,7). p(1) :- e(1,2). q(1) ^q(2).");
        well(" p ( 1 ) . ");
        well("p(1):-e(1,2).");
    }

    private static void words() {
        tell("p(^12345678).");
        tell("p(^-12345678).");
        tell("p(^00000000).");
        well("p(0000000).");
        well("p(-0).");
        well("p(-9999999).");
        tell("p(^-).");
        tell("p(^- 1).");
        tell("p(^--1).");
        tell("p(^+1).");
        tell("p(^-");
        tell("p(^-a).");
        tell("p(1^a).");
        tell("p(a^A).");
        tell("p(a^-1).");
        tell("p(^abcdefghijklm).");
        well("p(abcdefghijkl).");
        tell("^abcdefghijklm(1).");
        tell("^abcdefghijklmnopqrstuvwxyz");
        well("abcdefghijkl(1).");
        well("a_________0_(1).");
        tell("p(^Abcdefghijklm) :- e(1,2).");
        well("p(Abcdefghijkl) :- e(Abcdefghijkl,_).");
        tell("p(1) :- e(^Abcdefghijklm,2).");
        tell("p(1) :- ^Abcdefghijklm < 3.");
        tell("p(1) :- 3 < ^Abcdefghijklm.");
        tell("p(1) :- ^abcdefghijklm(3).");
        tell("p(1) :- ! ^abcdefghijklm(3).");
        tell("p(1) :- ^abcdefghijklm < 3.");
        tell("p(1) :- X ^abcdefghijklm 3.");
        tell("p(# sum ^Abcdefghijklm) :- e(1,2).");
        tell("p(# ^abcdefghijklm) :- e(1,2).");
        tell("p(a ^b).");
    }

    private static void heads() {
        tell("p(1,2,3,4,^5).");
        tell("p(1,2,3,4, ^#");
        tell("p(1,2,3,4,^");
        tell("p(1,2,3,4,^)");
        tell("p(^_) :- e(1,2).");
        tell("p(^_).");
        tell("p(^!).");
        tell("p(#^");
        tell("p(# ^)");
        tell("p(# ^Count) :- e(1,2).");
        tell("p(# ^counts) :- e(1,2).");
        tell("p(# ^cou");
        tell("p(# ^average X) :- e(X,_).");
        tell("p(# count ^X) :- e(X,_).");
        tell("p(# sum^");
        tell("p(# sum ^)");
        tell("p(# sum ^x) :- e(x,_).");
        tell("p(# min ^_) :- e(1,_).");
        tell("p(# max ^3) :- e(1,_).");
        tell("p(# count,^# count) :- e(1,2).");
        tell("p(# sum X, 2, ^#");
        tell("p(^# count).");
        tell("p(1,^# sum X).");
        tell("p(1,^X,# sum X,Y).");
        tell("p(^X).");
        tell("p(a,^X,Y).");
        tell("p(X,^_).");
        tell("p(X^");
        tell("p(X)^");
        well("p(#count,1):-e(1,2).");
        well("p(#sum X):-e(X,_).");
        well("p(#sumX):-e(X,_).");
        well("p(X,#min X,a,2):-e(X,_).");
    }

    private static void goals() {
        both("^");
        both("^+");
        both("^_ < 3");
        both("^#");
        both("!^!e(1,2)");
        both("!^");
        both("! ^3");
        both("! ^X");
        both("!e^");
        both("!e ^< 3");
        both("e(^");
        both("e(1^");
        both("e(1,^#count)");
        both("e(1,^!)");
        both("e(1,2,3,4,^5)");
        both("e(1,2) ^e(1,2)");
        both("e(1,2),^");
        both("e(1,2),e(1,2),e(1,2),e(1,2),e(1,2),e(1,2),e(1,2),e(1,2),^e(1,2)");
        both("e(1,2),e(1,2),e(1,2),e(1,2),e(1,2),e(1,2),e(1,2),e(1,2), ^!");
        both("e(1,2),e(1,2),e(1,2),e(1,2),e(1,2),e(1,2),e(1,2),e(1,2),^");
        both("e(1,2),e(1,2),e(1,2),e(1,2),e(1,2),e(1,2),e(1,2),1<^");
        both("a^");
        both("a ^b");
        both("a ^is 3 + 4");
        both("3 ^is 3 + 4");
        both("3^");
        both("3 ^> 4");
        both("3 ^+ 4");
        both("3 < ^");
        both("3 < ^<4");
        both("3 <^= 4");
        both("3 =^< 4");
        both("3 < ^> 4");
        both("3 <> ^> 4");
        both("3 = ^_");
        both("3 = ^!");
        both("3 = a ^(");
        both("3 = 4 ^+ 5");
        both("^12345678 < 3");
        both("^- 1 < 3");
        both("1 < ^- 3");
        both("e(X,_), X^");
        both("e(X,_), X ^,");
        both("e(X,_), X ^i");
        both("e(X,_), X ^iss 3 + 4");
        both("e(X,_), X ^Y");
        both("e(X,_), X ^> 3");
        both("Y is^");
        both("Y is 3^");
        both("Y is 3 ^, 4");
        both("Y is 3 ^/ 4");
        both("Y is 3 +^");
        both("Y is 3 + ^+ 4");
        both("Y is 3 - ^- 4");
        both("Y is ^* 3");
        both("Y is ^_ + 3");
        both("Y is 3 + 4 ^+ 5");
        both("Y is 3 -4 ^-5");
        both("e(1,2), ^(e(1,2))");
        well("p(Y) :- Y is 3 -4, e(Y,1).");
        well("p(Y) :- Y is 3--4, Y<>-4.");
        well("p(Y) :- Y is-3*-4.");
        well("p(Y) :- Y is a+b, isa(Y).");
        well("is(Is) :- Is is 1 + 2, is = is, is <> sum, is(is).");
        well("p(1) :- e(1,2),e(1,2),e(1,2),e(1,2),e(1,2),e(1,2),e(1,2),e(1,2).");
    }

    private static void variables() {
        both("^X < 3");
        both("3 < ^X");
        both("^X = X");
        both("e(X,_), X < ^Y");
        both("e(X,_), ^Y < X");
        both("Y is ^X + 1");
        both("Y is 1 + ^X");
        both("Y is ^Y + 1");
        both("e(X,Y), ^X is Y + 1");
        both("Y is 1 + 2, ^Y is 2 + 3");
        both("^Y < 3, Y is 1 + 2");
        both("e(A,B), e(C,D), e(E,F), e(G,H), e(A,^I)");
        both("e(A,B), e(C,D), e(E,F), e(G,H), ^I is 1 + 2");
        both("e(A,B), e(C,D), e(E,F), e(G,H), ^I < 1");
        both("e(A,B), e(C,D), e(E,F), e(G,H), !e(^I,A)");
        both("e(A,B), e(C,D), e(E,F), e(G,H), I ^!");
        tell("p(A,B,C,D) :- e(E,F), e(G,H), e(^I,J).");
        tell("p(A,B,C,# sum D) :- e(E,F), e(G,H), e(^I,J).");
        well("p(A,B,C,# sum D) :- e(A,B), e(C,D), e(E,F), e(G,H).");
        well("p(A,B,C,D) :- e(A,B), e(C,D), e(E,F), e(G,H), A < H, !e(A,_), !e(_,_).");
        well("p(1) :- !e(X,Y), !e(Z,_).");
        well("p(1) :- e(X,_), !e(X,X).");
        well("p(1) :- Y is 1 + 2, !e(Y,Y).");
    }

    private static void laterLooks() {
        tell("p(^X) :- e(1,2).");
        tell("p(1,^X) :- !e(X,2).");
        tell("p(^X) :- !e(Y,Y).");
        tell("p(1,2,^X,Y) :- e(1,2).");
        tell("p(# max ^X) :- e(1,2).");
        tell("p(1,# max ^X,Y) :- e(1,2).");
        tell("p(^Y,# max X) :- e(1,2).");
        tell("p(Z,# max Z,^Y) :- e(Z,2).");
        both("!e(^X,X)");
        both("!e(^X,_), !f(X)");
        both("!e(_,^X), e(X,_)");
        both("!e(^X,2), X is 1 + 2");
        both("e(Z,_), !e(Z,^Y), !e(X,X), !f(Y)");
        // What is looked at as one reads comes first.
        both("!e(X,X), e(1,^");
        tell("p(X) :- !e(Y,Y), 3 < ^Z.");
        tell("p(X) :- e(1,2)^");
        tell("p(X) :- !e(Y,Y) ^; e(1,2).");
    }

    private static void order() {
        tell("p(X,1^");
        tell("q(X) :- e(X,2). p(^X). 7");
        tell("q(^X) :- e(1,2). p(");
        tell("q(X) :- e(X,2). ^#");
    }

    private static void untell(String marked) {
        RoundReckoner x = Checks.ranOf(TOLD);
        Checks.due("untell " + marked, Checks.untell(x, marked.replace("^", "")), -1 - marked.indexOf('^'));
        Checks.due("FACTS after " + marked, x.count(3), 2);
        Checks.due("tape after " + marked, x.count(0), 0);
    }

    private static void find(String marked) {
        RoundReckoner x = Checks.ranOf(TOLD);
        Checks.due("find " + marked, Checks.find(x, marked.replace("^", "")), -2 - marked.indexOf('^'));
        Checks.due("tape after " + marked, x.count(0), 0);
    }

    private static void facts() {
        untell("^");
        untell("^X(1).");
        untell("e(1,2)^");
        untell("e(1,2). ^e(1,2).");
        untell("e(1,2).^.");
        untell("e(1,2) ^:- e(1,2).");
        untell("e(^X,2). z");
        untell("e(X,2)^");
        untell("e(X,^_).");
        untell("e(^# count,2).");
        untell("e(# ^foo,2).");
        untell("e(1,2,3,4,^5).");
        find("^");
        find(" ^!");
        find("e(1,2)^.");
        find("e(1,2) ^e");
        find("e(^X,2).");
        find("e(1,^# sum X)");
        find("e(X,2^");
        find("e(X,^_)");
        find("e(1,2,3,4,^");
    }

    private static void names() {
        RoundReckoner x = new RoundReckoner();
        int[] due = new int[1];
        // Each text with how many NAMES of CONSTANTS it brings.
        String[][] texts = {
            {"p(a,b", "2"}, {"p(a,c).!", "1"}, {"a(1). b(d) :- X.", "1"}, {"p(1) :- e < 3, f = g, h(i), !j(k) ; l", "5"},
            {"p(abcdefghijklm)", "0"}, {"p(# count, m) :- X is n + o, ", "3"}, {"p(1,2,3,4,q)", "0"}, {"p(1) :- r s", "1"},
            {"p(1) :- t(u v", "1"}, {"p(# w", "0"}, {"p(1) :- X w", "0"}, {"p(1) :- w", "1"}};
        for (String[] text : texts) {
            Checks.tell(x, text[0]);
            due[0] += Integer.parseInt(text[1]);
            Checks.due("NAMES after " + text[0], x.count(9), due[0]);
        }
        Checks.untell(x, "y(aa).");
        Checks.due("NAMES after untell", x.count(9), due[0] + 1);
        Checks.put(x, "y(ab)");
        Checks.dueThrow("find unread", IllegalStateException.class, x::find);
        Checks.put(x, "y(ab)");
        Checks.dueThrow("ask unread", IllegalStateException.class, x::ask);
        Checks.due("NAMES of texts that were not read", x.count(9), due[0] + 1);
        x.run();
        Checks.find(x, "y(ac,1)");
        Checks.ask(x, "ad = 3, y(ae,1)");
        Checks.due("NAMES after find and ask", x.count(9), due[0] + 4);
        Checks.tell(x, "z(ae,b,ac,1).");
        x.run();
        Checks.due("ae", x.tuple(0, 0), 200000000 + due[0] + 3);
        Checks.due("b", x.tuple(0, 1), 200000001);
        Checks.due("ac", x.tuple(0, 2), 200000000 + due[0] + 1);
    }
}
