import java.util.ArrayList;
import java.util.HashMap;
import java.util.LinkedHashMap;
import java.util.List;
import java.util.Map;
import java.util.TreeMap;

/** The document once more, slow and plain, over lists of words and maps: what the class is compared with. */
final class Model {
    private static final class Token {
        char kind; // a NAME, A VARIABLE, 0 digits, r for :-, n for <>, $ the end, ? what can't stand, else the sign itself
        String text;
        int place;
    }

    private static final class Term {
        char kind; // A VARIABLE, c CONSTANT, _ , #
        Object value; // Integer, or String of a NAME
        String variable;
        String tally;
        int place;
        int tallyPlace;
    }

    private static final class Goal {
        char kind; // p ATOM, ! , < = n + - *
        String predicate;
        String target;
        List<Term> terms = new ArrayList<>();
    }

    private static final class Rule {
        Goal head;
        List<Goal> goals = new ArrayList<>();
    }

    private static final class Tuple {
        String predicate;
        List<Object> args;
        int layer;
        int round;
        int rule;
        List<Integer> took;
    }

    private static final class Broken extends Exception {
        final int place;

        Broken(int place) {
            this.place = place;
        }
    }

    private StringBuilder tape = new StringBuilder();
    private String out = "";
    private final List<String> names = new ArrayList<>();
    private List<String> predicates = new ArrayList<>();
    private List<List<Object>> facts = new ArrayList<>();
    private List<Rule> rules = new ArrayList<>();
    private List<Tuple> tuples = new ArrayList<>();
    private Map<String, Integer> layers = new HashMap<>();
    private boolean ran;
    private int lastSteps;
    private int lastRounds;
    private int ways;
    private List<Map<String, Object>> answers = new ArrayList<>();
    private List<String> answerVariables = new ArrayList<>();

    private List<Token> tokens;
    private int next;
    private Map<String, Integer> occurrences;
    private List<String> known;
    private Map<Integer, String> lateChecks;

    // ---- reading ----

    private static boolean isWordByte(char c) {
        return c >= 'a' && c <= 'z' || c >= '0' && c <= '9' || c == '_';
    }

    private void cutTokens() {
        tokens = new ArrayList<>();
        next = 0;
        String s = tape.toString();
        int at = 0;
        while (at < s.length()) {
            char c = s.charAt(at);
            if (c == 10 || c == 32) {
                at++;
                continue;
            }
            Token t = new Token();
            t.place = at;
            int end = at + 1;
            if (c >= 'a' && c <= 'z' || c >= 'A' && c <= 'Z') {
                while (end < s.length() && isWordByte(s.charAt(end))) {
                    end++;
                }
                t.kind = end - at > 12 ? '?' : c >= 'a' ? 'a' : 'A';
            } else if (c >= '0' && c <= '9') {
                while (end < s.length() && s.charAt(end) >= '0' && s.charAt(end) <= '9') {
                    end++;
                }
                t.kind = '0';
            } else if (c == ':') {
                boolean whole = s.startsWith(":-", at);
                t.kind = whole ? 'r' : ':';
                end = whole ? at + 2 : at + 1;
            } else if (s.startsWith("<>", at)) {
                t.kind = 'n';
                end = at + 2;
            } else {
                t.kind = "(),.!#<=+-*_".indexOf(c) >= 0 ? c : '?';
            }
            t.text = s.substring(at, end);
            tokens.add(t);
            at = end;
        }
        Token last = new Token();
        last.kind = '$';
        last.text = "";
        last.place = s.length();
        tokens.add(last);
        tape = new StringBuilder();
    }

    private Token peek() {
        return tokens.get(next);
    }

    private Token take(String kinds) throws Broken {
        Token t = peek();
        if (kinds.indexOf(t.kind) < 0) {
            throw new Broken(t.place);
        }
        next++;
        return t;
    }

    private void beginClause() {
        occurrences = new LinkedHashMap<>();
        known = new ArrayList<>();
        lateChecks = new TreeMap<>();
    }

    private Object nameOf(String word) {
        if (!names.contains(word)) {
            names.add(word);
        }
        return word;
    }

    private void meet(Token t) throws Broken {
        if (!occurrences.containsKey(t.text) && occurrences.size() == 8) {
            throw new Broken(t.place);
        }
        occurrences.merge(t.text, 1, Integer::sum);
    }

    private Term readConstant() throws Broken {
        Term term = new Term();
        term.kind = 'c';
        Token t = take("a0-");
        term.place = t.place;
        if (t.kind == 'a') {
            term.value = nameOf(t.text);
            return term;
        }
        boolean minus = t.kind == '-';
        if (minus) {
            Token digits = peek();
            if (digits.kind != '0' || digits.place != t.place + 1) {
                throw new Broken(t.place);
            }
            next++;
            t = digits;
        }
        if (t.text.length() > 7) {
            throw new Broken(term.place);
        }
        term.value = (minus ? -1 : 1) * Integer.parseInt(t.text);
        return term;
    }

    private Term readValue() throws Broken {
        if (peek().kind != 'A') {
            return readConstant();
        }
        Token t = take("A");
        if (!known.contains(t.text)) {
            throw new Broken(t.place);
        }
        meet(t);
        return variable(t);
    }

    private static Term variable(Token t) {
        Term term = new Term();
        term.kind = 'A';
        term.variable = t.text;
        term.place = t.place;
        return term;
    }

    private Term readTally(Goal head) throws Broken {
        Term term = new Term();
        term.kind = '#';
        Token sign = take("#");
        term.place = sign.place;
        for (Term other : head.terms) {
            if (other.kind == '#') {
                throw new Broken(sign.place);
            }
        }
        Token word = take("a");
        term.tally = word.text;
        if (!List.of("count", "sum", "min", "max").contains(word.text)) {
            throw new Broken(word.place);
        }
        if (!word.text.equals("count")) {
            Token v = take("A");
            meet(v);
            term.variable = v.text;
            term.tallyPlace = v.place;
        }
        return term;
    }

    /** Reads ( ARGS ); the kind is h of HEADS, p of ATOMS, ! of ! ATOMS. The mode is t tell, a ask, f of FACTS alone. */
    private Goal readAtom(Token name, char kind, char mode) throws Broken {
        Goal goal = new Goal();
        goal.kind = kind;
        take("(");
        List<String> knownAhead = new ArrayList<>(known);
        while (true) {
            if (goal.terms.size() == 4) {
                throw new Broken(peek().place);
            }
            Token t = peek();
            if (kind == 'h' && t.kind == '#') {
                goal.terms.add(readTally(goal));
            } else if (kind != 'h' && t.kind == '_') {
                next++;
                Term term = new Term();
                term.kind = '_';
                goal.terms.add(term);
            } else if (t.kind == 'A') {
                next++;
                meet(t);
                goal.terms.add(variable(t));
                if (kind == 'p' && !known.contains(t.text)) {
                    known.add(t.text);
                }
                if (kind == '!' && !knownAhead.contains(t.text)) {
                    lateChecks.put(t.place, t.text);
                }
            } else {
                goal.terms.add(readConstant());
            }
            if (take("),").kind == ')') {
                break;
            }
        }
        goal.predicate = name.text + "/" + goal.terms.size();
        if (mode != 'f' && !predicates.contains(goal.predicate)) {
            if (mode == 'a' || predicates.size() == 20) {
                throw new Broken(name.place);
            }
            predicates.add(goal.predicate);
        }
        return goal;
    }

    private Goal readGoal(char mode) throws Broken {
        Token t = peek();
        if (t.kind == '!') {
            next++;
            return readAtom(take("a"), '!', mode);
        }
        if (t.kind == 'a' && tokens.get(next + 1).kind == '(') {
            next++;
            return readAtom(t, 'p', mode);
        }
        Goal goal = new Goal();
        if (t.kind == 'A') {
            next++;
            Token sign = peek();
            if (sign.kind == 'a' && sign.text.equals("is")) {
                next++;
                if (known.contains(t.text)) {
                    throw new Broken(t.place);
                }
                meet(t);
                goal.target = t.text;
                goal.terms.add(readValue());
                goal.kind = take("+-*").kind;
                goal.terms.add(readValue());
                known.add(t.text);
                return goal;
            }
            goal.kind = take("<=n").kind;
            if (!known.contains(t.text)) {
                throw new Broken(t.place);
            }
            meet(t);
            goal.terms.add(variable(t));
        } else {
            goal.terms.add(readConstant());
            goal.kind = take("<=n").kind;
        }
        goal.terms.add(readValue());
        return goal;
    }

    private List<Goal> readGoals(char mode) throws Broken {
        List<Goal> goals = new ArrayList<>();
        char last = mode == 'a' ? '$' : '.';
        while (true) {
            if (goals.size() == 8) {
                throw new Broken(peek().place);
            }
            goals.add(readGoal(mode));
            if (peek().kind == last) {
                return goals;
            }
            take(",");
        }
    }

    private void checkLate(Goal head) throws Broken {
        if (head != null) {
            for (Term term : head.terms) {
                if (term.variable != null && !known.contains(term.variable)) {
                    throw new Broken(term.kind == '#' ? term.tallyPlace : term.place);
                }
            }
        }
        for (Map.Entry<Integer, String> late : lateChecks.entrySet()) {
            if (occurrences.get(late.getValue()) > 1) {
                throw new Broken(late.getKey());
            }
        }
    }

    private static void checkConstants(Goal head) throws Broken {
        for (Term term : head.terms) {
            if (term.kind != 'c') {
                throw new Broken(term.place);
            }
        }
    }

    private static List<Object> factOf(Goal head) {
        List<Object> fact = new ArrayList<>();
        fact.add(head.predicate);
        for (Term term : head.terms) {
            fact.add(term.value);
        }
        return fact;
    }

    private void readClause() throws Broken {
        beginClause();
        Token name = take("a");
        Goal head = readAtom(name, 'h', 't');
        Token sign = peek();
        if (sign.kind == ':') {
            throw new Broken(sign.place + 1);
        }
        if (take(".r").kind == '.') {
            checkConstants(head);
            if (!facts.contains(factOf(head))) {
                if (facts.size() == 400) {
                    throw new Broken(name.place);
                }
                facts.add(factOf(head));
            }
            return;
        }
        if (rules.size() == 60) {
            throw new Broken(name.place);
        }
        Rule rule = new Rule();
        rule.head = head;
        rule.goals = readGoals('t');
        next++;
        checkLate(head);
        rules.add(rule);
    }

    // ---- the face ----

    int feed(int a, int b, int c, int d, int e) {
        if (tape.length() > 1980) {
            throw new IndexOutOfBoundsException();
        }
        for (int four : new int[] {a, b, c, d, e}) {
            for (int k = 24; k >= 0; k -= 8) {
                tape.append((char) (four >>> k & 255));
            }
        }
        return tape.length();
    }

    int end(int n) {
        if (n < 0 || n > tape.length()) {
            throw new IllegalArgumentException();
        }
        tape.setLength(n);
        return n;
    }

    private void change() {
        ran = false;
        ways = 0;
    }

    int tell() {
        List<String> oldPredicates = new ArrayList<>(predicates);
        List<List<Object>> oldFacts = new ArrayList<>(facts);
        List<Rule> oldRules = new ArrayList<>(rules);
        cutTokens();
        int told = 0;
        try {
            while (peek().kind != '$') {
                readClause();
                told++;
            }
        } catch (Broken broken) {
            predicates = oldPredicates;
            facts = oldFacts;
            rules = oldRules;
            return -1 - broken.place;
        }
        if (facts.size() > oldFacts.size() || rules.size() > oldRules.size()) {
            change();
        }
        return told;
    }

    int untell() {
        cutTokens();
        beginClause();
        try {
            Goal head = readAtom(take("a"), 'h', 'f');
            take(".");
            checkConstants(head);
            take("$");
            if (!facts.remove(factOf(head))) {
                return 0;
            }
            change();
            return 1;
        } catch (Broken broken) {
            return -1 - broken.place;
        }
    }

    int drop(int r) {
        if (r < 0 || r >= rules.size()) {
            throw new IndexOutOfBoundsException();
        }
        rules.remove(r);
        change();
        return rules.size();
    }

    int run() {
        change();
        layers = findLayers();
        tuples = new ArrayList<>();
        steps = 0;
        int rounds = 0;
        int top = -1;
        for (String p : predicates) {
            top = Math.max(top, layers.get(p));
        }
        for (int layer = 0; layer <= top; layer++) {
            for (List<Object> fact : facts) {
                if (layers.get((String) fact.get(0)) == layer) {
                    come((String) fact.get(0), fact.subList(1, fact.size()), 0, -1, List.of());
                }
            }
            for (int r = 0; r < rules.size(); r++) {
                if (layers.get(rules.get(r).head.predicate) == layer && tallyOf(rules.get(r)) != null) {
                    tally(r);
                }
            }
            int fresh = tuples.size();
            int round = 0;
            int before;
            do {
                round++;
                before = tuples.size();
                for (int r = 0; r < rules.size(); r++) {
                    if (layers.get(rules.get(r).head.predicate) == layer && tallyOf(rules.get(r)) == null) {
                        derive(r, round, before, fresh);
                    }
                }
                fresh = before;
            } while (tuples.size() > before);
            rounds += round;
        }
        ran = true;
        lastSteps = steps;
        lastRounds = rounds;
        return tuples.size();
    }

    private Map<String, Integer> findLayers() {
        Map<String, Integer> found = new HashMap<>();
        for (String p : predicates) {
            found.put(p, 0);
        }
        for (int pass = 0; pass < 30; pass++) {
            boolean same = true;
            for (Rule rule : rules) {
                for (Goal goal : rule.goals) {
                    if (goal.predicate == null) {
                        continue;
                    }
                    int least = found.get(goal.predicate) + (goal.kind == '!' || tallyOf(rule) != null ? 1 : 0);
                    if (found.get(rule.head.predicate) < least) {
                        found.put(rule.head.predicate, least);
                        same = false;
                    }
                }
            }
            if (same) {
                return found;
            }
        }
        throw new UnsupportedOperationException();
    }

    // ---- working out ----

    private int steps;

    private interface Way {
        void found(Map<String, Object> bound, List<Integer> took);
    }

    private static Term tallyOf(Rule rule) {
        for (Term term : rule.head.terms) {
            if (term.kind == '#') {
                return term;
            }
        }
        return null;
    }

    private void come(String predicate, List<Object> args, int round, int rule, List<Integer> took) {
        for (Tuple t : tuples) {
            if (t.predicate.equals(predicate) && t.args.equals(args)) {
                return;
            }
        }
        if (tuples.size() == 2000) {
            throw new IndexOutOfBoundsException();
        }
        Tuple t = new Tuple();
        t.predicate = predicate;
        t.args = new ArrayList<>(args);
        t.layer = layers.get(predicate);
        t.round = round;
        t.rule = rule;
        t.took = new ArrayList<>(took);
        tuples.add(t);
    }

    private static Object valueOf(Term term, Map<String, Object> bound) {
        return term.kind == 'A' ? bound.get(term.variable) : term.value;
    }

    /** What is bound when the ATOM takes the TUPLE, null if it can't. */
    private static Map<String, Object> match(Goal atom, Tuple t, Map<String, Object> bound) {
        if (!t.predicate.equals(atom.predicate)) {
            return null;
        }
        Map<String, Object> then = new HashMap<>(bound);
        for (int k = 0; k < atom.terms.size(); k++) {
            Term term = atom.terms.get(k);
            if (term.kind == 'A' && !then.containsKey(term.variable)) {
                then.put(term.variable, t.args.get(k));
            } else if (term.kind != '_' && !valueOf(term, then).equals(t.args.get(k))) {
                return null;
            }
        }
        return then;
    }

    private void walk(List<Goal> goals, int g, Map<String, Object> bound, List<Integer> took, int[] scope, Way way) {
        if (g == goals.size()) {
            way.found(bound, took);
            return;
        }
        Goal goal = goals.get(g);
        int limit = scope[0];
        if (goal.kind == 'p') {
            boolean last = true;
            for (int k = g + 1; k < goals.size(); k++) {
                last = last && goals.get(k).kind != 'p';
            }
            boolean has = scope[1] <= 0;
            for (int t : took) {
                has = has || t >= scope[1];
            }
            for (int t = 0; t < limit; t++) {
                Map<String, Object> then = match(goal, tuples.get(t), bound);
                if (then == null || last && !has && t < scope[1]) {
                    continue;
                }
                steps++;
                if (steps > 50000) {
                    throw new ArithmeticException();
                }
                List<Integer> more = new ArrayList<>(took);
                more.add(t);
                walk(goals, g + 1, then, more, scope, way);
            }
            return;
        }
        if (goal.kind == '!') {
            for (int t = 0; t < limit; t++) {
                if (match(goal, tuples.get(t), bound) != null) {
                    return;
                }
            }
            walk(goals, g + 1, bound, took, scope, way);
            return;
        }
        Map<String, Object> then = holds(goal, bound);
        if (then != null) {
            walk(goals, g + 1, then, took, scope, way);
        }
    }

    private static Map<String, Object> holds(Goal goal, Map<String, Object> bound) {
        Object left = valueOf(goal.terms.get(0), bound);
        Object right = valueOf(goal.terms.get(1), bound);
        if (goal.kind == '=' || goal.kind == 'n') {
            return left.equals(right) == (goal.kind == '=') ? bound : null;
        }
        if (!(left instanceof Integer) || !(right instanceof Integer)) {
            return null;
        }
        long a = (Integer) left;
        long b = (Integer) right;
        if (goal.kind == '<') {
            return a < b ? bound : null;
        }
        long result = goal.kind == '+' ? a + b : goal.kind == '-' ? a - b : a * b;
        if (result < -100000000 || result > 100000000) {
            return null;
        }
        Map<String, Object> then = new HashMap<>(bound);
        then.put(goal.target, (int) result);
        return then;
    }

    private void derive(int r, int round, int limit, int fresh) {
        Rule rule = rules.get(r);
        boolean atoms = false;
        for (Goal goal : rule.goals) {
            atoms = atoms || goal.kind == 'p';
        }
        if (!atoms && round > 1) {
            return;
        }
        int[] scope = {limit, round > 1 ? fresh : 0};
        walk(rule.goals, 0, new HashMap<>(), new ArrayList<>(), scope, (bound, took) -> {
            List<Object> args = new ArrayList<>();
            for (Term term : rule.head.terms) {
                args.add(valueOf(term, bound));
            }
            come(rule.head.predicate, args, round, r, took);
        });
    }

    private void tally(int r) {
        Rule rule = rules.get(r);
        Term tallied = tallyOf(rule);
        Map<List<Object>, List<Object>> rows = new LinkedHashMap<>();
        int[] scope = {tuples.size(), 0};
        walk(rule.goals, 0, new HashMap<>(), new ArrayList<>(), scope, (bound, took) -> {
            List<Object> key = new ArrayList<>();
            for (Term term : rule.head.terms) {
                key.add(term.kind == '#' ? "#" : valueOf(term, bound));
            }
            if (!rows.containsKey(key) && rows.size() == 2000) {
                throw new IndexOutOfBoundsException();
            }
            rows.computeIfAbsent(key, k -> new ArrayList<>())
                .add(tallied.variable == null ? "way" : bound.get(tallied.variable));
        });
        for (Map.Entry<List<Object>, List<Object>> row : rows.entrySet()) {
            Integer amount = amountOf(tallied.tally, row.getValue());
            if (amount != null) {
                List<Object> args = new ArrayList<>(row.getKey());
                args.set(rule.head.terms.indexOf(tallied), amount);
                come(rule.head.predicate, args, 0, r, List.of());
            }
        }
    }

    private static Integer amountOf(String tally, List<Object> values) {
        if (tally.equals("count")) {
            return values.size();
        }
        Integer amount = tally.equals("sum") ? 0 : null;
        for (Object value : values) {
            if (value instanceof Integer) {
                int v = (Integer) value;
                amount = amount == null ? v : tally.equals("sum") ? amount + v
                    : tally.equals("min") ? Math.min(amount, v) : Math.max(amount, v);
            }
        }
        return amount;
    }

    // ---- what is told of it ----

    private int coded(Object value) {
        return value instanceof Integer ? (Integer) value : 200000000 + names.indexOf(value);
    }

    private Tuple needTuple(int i) {
        if (!ran) {
            throw new IllegalStateException();
        }
        if (i < 0 || i >= tuples.size()) {
            throw new IndexOutOfBoundsException();
        }
        return tuples.get(i);
    }

    int tuple(int i, int what) {
        if (what < 0 || what > 8) {
            throw new IllegalArgumentException();
        }
        Tuple t = needTuple(i);
        if (what < 4) {
            return what < t.args.size() ? coded(t.args.get(what)) : 300000000;
        }
        return new int[] {predicates.indexOf(t.predicate), t.layer, t.round, t.rule, t.took.size()}[what - 4];
    }

    int why(int i, int k) {
        Tuple t = needTuple(i);
        if (k < 0 || k >= t.took.size()) {
            throw new IndexOutOfBoundsException();
        }
        return t.took.get(k);
    }

    int show(int i) {
        Tuple t = needTuple(i);
        StringBuilder text = new StringBuilder(t.predicate.substring(0, t.predicate.indexOf('/')));
        for (int k = 0; k < t.args.size(); k++) {
            text.append(k == 0 ? '(' : ',').append(t.args.get(k));
        }
        out = text.append(')').toString();
        return out.length();
    }

    int find() {
        if (!ran) {
            tape.setLength(0);
            throw new IllegalStateException();
        }
        cutTokens();
        beginClause();
        try {
            Goal head = readAtom(take("a"), 'h', 'f');
            checkConstants(head);
            take("$");
            List<Object> fact = factOf(head);
            for (int i = 0; i < tuples.size(); i++) {
                Tuple t = tuples.get(i);
                if (t.predicate.equals(head.predicate) && t.args.equals(fact.subList(1, fact.size()))) {
                    return i;
                }
            }
            return -1;
        } catch (Broken broken) {
            return -2 - broken.place;
        }
    }

    int ask() {
        if (!ran) {
            tape.setLength(0);
            throw new IllegalStateException();
        }
        cutTokens();
        beginClause();
        List<Goal> goals;
        try {
            goals = readGoals('a');
            checkLate(null);
        } catch (Broken broken) {
            return -1 - broken.place;
        }
        steps = 0;
        List<Map<String, Object>> found = new ArrayList<>();
        int[] scope = {tuples.size(), 0};
        walk(goals, 0, new HashMap<>(), new ArrayList<>(), scope, (bound, took) -> found.add(bound));
        answers = found;
        answerVariables = new ArrayList<>(occurrences.keySet());
        ways = found.size();
        lastSteps = steps;
        return ways;
    }

    int answer(int i, int k) {
        if (i < 0 || i >= ways || i >= 100 || k < 0 || k >= answerVariables.size()) {
            throw new IndexOutOfBoundsException();
        }
        Object value = answers.get(i).get(answerVariables.get(k));
        if (value == null) {
            throw new IndexOutOfBoundsException();
        }
        return coded(value);
    }

    int layer(int p) {
        if (!ran) {
            throw new IllegalStateException();
        }
        if (p < 0 || p >= predicates.size()) {
            throw new IndexOutOfBoundsException();
        }
        return layers.get(predicates.get(p));
    }

    long word(int i) {
        if (i < 0 || i >= out.length()) {
            throw new IndexOutOfBoundsException();
        }
        long eight = 0;
        for (int k = i; k < i + 8; k++) {
            eight = eight * 256 + (k < out.length() ? out.charAt(k) : 0);
        }
        return eight;
    }

    int count(int what) {
        int top = -1;
        if (ran) {
            for (String p : predicates) {
                top = Math.max(top, layers.get(p));
            }
        }
        int[] counts = {tape.length(), out.length(), rules.size(), facts.size(), predicates.size(),
            ran ? tuples.size() : 0, lastSteps, lastRounds, top + 1, names.size()};
        if (what < 0 || what >= counts.length) {
            throw new IllegalArgumentException();
        }
        return counts[what];
    }
}
