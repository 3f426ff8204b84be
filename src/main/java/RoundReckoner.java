import java.util.Arrays;

/**
 * A reckoner of rules by rounds: facts and rules are told as texts, and what follows is worked
 * out round after round till nothing is new, in layers for what is not so and for what is counted;
 * everything tells in which round and why it came, and questions are asked of it all.
 */
public final class RoundReckoner {
    private static final int TAPE_BYTES = 2000;
    private static final int OUT_BYTES = 200;
    private static final int FED_BYTES = 20;
    private static final int WORD_BYTES = 12;
    private static final int DIGITS = 7;
    private static final int ARGS = 4;
    private static final int GOALS = 8;
    private static final int VARIABLES = 8;
    private static final int PREDICATES = 20;
    private static final int RULES = 60;
    private static final int FACTS = 400;
    private static final int TUPLES = 2000;
    private static final int STEPS = 50000;
    private static final int ANSWERS = 100;
    private static final int GREATEST_RESULT = 100000000;
    private static final int NAME_ANSWER = 200000000;
    private static final int NO_ARG_ANSWER = 300000000;
    private static final int COUNTS = 10;
    private static final int ASPECTS = 9;

    /** 512 calls feed at most 10240 bytes, and a NAME takes two of them with the sign behind it. */
    private static final int NAMES = 5120;
    /** A sum may be any int, so NAMES lie above all ints to be never the same as a number. */
    private static final long NAME_BASE = 1L << 40;

    /** A prime by which the parts of a key are mixed. */
    private static final long MIX = 1000003L;

    /** Words are kept as numbers of base 38: twelve such digits fit a long. */
    private static final int WORD_BASE = 38;
    private static final long IS = 9 * 38 + 19;
    private static final long SUM_WORD = (19 * 38 + 21) * 38 + 13;
    private static final long MIN_WORD = (13 * 38 + 9) * 38 + 14;
    private static final long MAX_WORD = (13 * 38 + 1) * 38 + 24;
    private static final long COUNT_WORD = (((3L * 38 + 15) * 38 + 21) * 38 + 14) * 38 + 20;

    private static final int HEAD = 0;
    private static final int ATOM = 1;
    private static final int NO_ATOM = 2;
    private static final int LESS = 3;
    private static final int SAME = 4;
    private static final int OTHER = 5;
    private static final int PLUS = 6;
    private static final int MINUS = 7;
    private static final int TIMES = 8;

    private static final int CONSTANT = 0;
    private static final int BOUND = 1;
    private static final int FREE = 2;
    private static final int ANYTHING = 3;
    private static final int TALLY = 4;

    private static final int NO_TALLY = 0;
    private static final int WAYS = 1;
    private static final int SUM = 2;
    private static final int LEAST = 3;
    private static final int GREATEST = 4;

    private static final int TELLING = 0;
    private static final int NAMING = 1;
    private static final int ASKING = 2;

    private static final int DERIVING = 0;
    private static final int TALLYING = 1;
    private static final int ANSWERING = 2;

    private final Clauses clauses;
    private final Reader reader;
    private final Tuples tuples;
    private final Engine engine;
    private final Out out;
    private Answers answers;
    private Answers nextAnswers;
    private boolean ran;
    private int lastSteps;
    private int lastRounds;

    public RoundReckoner() {
        clauses = new Clauses();
        reader = new Reader(clauses);
        tuples = new Tuples();
        engine = new Engine(clauses, tuples);
        out = new Out();
        answers = new Answers();
        nextAnswers = new Answers();
    }

    public int feed(int a, int b, int c, int d, int e) throws IndexOutOfBoundsException {
        if (reader.length + FED_BYTES > TAPE_BYTES) {
            throw new IndexOutOfBoundsException();
        }
        reader.take(a);
        reader.take(b);
        reader.take(c);
        reader.take(d);
        reader.take(e);
        return reader.length;
    }

    public int end(int n) throws IllegalArgumentException {
        if (n < 0 || n > reader.length) {
            throw new IllegalArgumentException();
        }
        reader.length = n;
        return n;
    }

    public int tell() {
        clauses.mark();
        reader.start(TELLING);
        int told = 0;
        boolean well = true;
        while (well && told < TAPE_BYTES && reader.look() >= 0) {
            Rule rule = clauses.rule(clauses.ruleCount);
            well = reader.readHead(rule);
            if (well && reader.look() == '.') {
                well = reader.readFactEnd(rule.head);
            } else if (well) {
                well = reader.readRuleSign(rule.head) && reader.readGoals(rule) && clauses.keepRule();
            }
            told++;
        }
        reader.empty();
        if (!well) {
            clauses.goBack();
            return -1 - reader.broken;
        }
        if (clauses.isChanged()) {
            forget();
        }
        return told;
    }

    private void forget() {
        ran = false;
        answers.clear();
    }

    public int untell() {
        Rule scratch = clauses.rule(clauses.ruleCount);
        reader.start(NAMING);
        boolean well = reader.readHead(scratch) && reader.readStop(scratch.head) && reader.readNothing();
        reader.empty();
        if (!well) {
            return -1 - reader.broken;
        }
        int fact = clauses.factOf(scratch.head);
        if (fact < 0) {
            return 0;
        }
        clauses.removeFact(fact);
        forget();
        return 1;
    }

    public int drop(int r) throws IndexOutOfBoundsException {
        if (r < 0 || r >= clauses.ruleCount) {
            throw new IndexOutOfBoundsException();
        }
        clauses.removeRule(r);
        forget();
        return clauses.ruleCount;
    }

    public int run() throws UnsupportedOperationException, ArithmeticException, IndexOutOfBoundsException {
        forget();
        if (!clauses.layOut()) {
            throw new UnsupportedOperationException();
        }
        engine.clear();
        int rounds = 0;
        for (int layer = 0; layer < clauses.layerCount; layer++) {
            engine.bringFacts(layer);
            engine.bringTallies(layer);
            rounds += engine.playRounds(layer);
        }
        lastRounds = rounds;
        lastSteps = engine.steps;
        ran = true;
        return tuples.count;
    }

    public int tuple(int i, int what)
        throws IllegalArgumentException, IllegalStateException, IndexOutOfBoundsException {
        if (what < 0 || what >= ASPECTS) {
            throw new IllegalArgumentException();
        }
        needTuple(i);
        int predicate = tuples.predicates[i];
        switch (what) {
            case 4:
                return predicate;
            case 5:
                return clauses.layers[predicate];
            case 6:
                return tuples.rounds[i];
            case 7:
                return tuples.rules[i];
            case 8:
                return tuples.tookCounts[i];
            default:
                return what < clauses.predicateSizes[predicate]
                    ? answerOf(tuples.values[i * ARGS + what])
                    : NO_ARG_ANSWER;
        }
    }

    private void needRun() {
        if (!ran) {
            throw new IllegalStateException();
        }
    }

    private void needTuple(int i) {
        needRun();
        if (i < 0 || i >= tuples.count) {
            throw new IndexOutOfBoundsException();
        }
    }

    private static boolean isNumber(long value) {
        return value < NAME_BASE;
    }

    private static int answerOf(long value) {
        return isNumber(value) ? (int) value : NAME_ANSWER + (int) (value - NAME_BASE);
    }

    public int why(int i, int k) throws IllegalStateException, IndexOutOfBoundsException {
        needTuple(i);
        if (k < 0 || k >= tuples.tookCounts[i]) {
            throw new IndexOutOfBoundsException();
        }
        return tuples.took[i * GOALS + k];
    }

    public int show(int i) throws IllegalStateException, IndexOutOfBoundsException {
        needTuple(i);
        int predicate = tuples.predicates[i];
        out.clear();
        out.writeWord(clauses.predicateWords[predicate]);
        for (int k = 0; k < clauses.predicateSizes[predicate]; k++) {
            out.write(k == 0 ? '(' : ',');
            long value = tuples.values[i * ARGS + k];
            if (isNumber(value)) {
                out.writeNumber(value);
            } else {
                out.writeWord(reader.names.wordOf((int) (value - NAME_BASE)));
            }
        }
        out.write(')');
        return out.count;
    }

    public int find() throws IllegalStateException {
        if (!ran) {
            reader.empty();
            throw new IllegalStateException();
        }
        Rule scratch = clauses.rule(clauses.ruleCount);
        reader.start(NAMING);
        boolean well = reader.readHead(scratch) && reader.areConstants(scratch.head) && reader.readNothing();
        reader.empty();
        if (!well) {
            return -2 - reader.broken;
        }
        if (scratch.head.predicate < 0) {
            return -1;
        }
        for (int k = 0; k < ARGS; k++) {
            tuples.draft[k] = scratch.head.values[k];
        }
        return tuples.numberOf(scratch.head.predicate);
    }

    public int ask() throws IllegalStateException, ArithmeticException {
        if (!ran) {
            reader.empty();
            throw new IllegalStateException();
        }
        Rule question = clauses.rule(clauses.ruleCount);
        reader.start(ASKING);
        boolean well = reader.readGoals(question);
        reader.empty();
        if (!well) {
            return -1 - reader.broken;
        }
        nextAnswers.clear();
        nextAnswers.known = reader.known;
        engine.answerAll(question, nextAnswers);
        Answers former = answers;
        answers = nextAnswers;
        nextAnswers = former;
        lastSteps = engine.steps;
        return answers.ways;
    }

    public int answer(int i, int k) throws IndexOutOfBoundsException {
        if (i < 0 || i >= Math.min(answers.ways, ANSWERS)) {
            throw new IndexOutOfBoundsException();
        }
        if (k < 0 || k >= VARIABLES || (answers.known >> k & 1) == 0) {
            throw new IndexOutOfBoundsException();
        }
        return answerOf(answers.values[i * VARIABLES + k]);
    }

    public int layer(int p) throws IllegalStateException, IndexOutOfBoundsException {
        needRun();
        if (p < 0 || p >= clauses.predicateCount) {
            throw new IndexOutOfBoundsException();
        }
        return clauses.layers[p];
    }

    public long word(int i) throws IndexOutOfBoundsException {
        if (i < 0 || i >= out.count) {
            throw new IndexOutOfBoundsException();
        }
        long bytes = 0;
        for (int k = 0; k < 8; k++) {
            bytes = bytes << 8 | (i + k < out.count ? out.bytes[i + k] : 0);
        }
        return bytes;
    }

    public int count(int what) throws IllegalArgumentException {
        if (what < 0 || what >= COUNTS) {
            throw new IllegalArgumentException();
        }
        switch (what) {
            case 0:
                return reader.length;
            case 1:
                return out.count;
            case 2:
                return clauses.ruleCount;
            case 3:
                return clauses.factCount;
            case 4:
                return clauses.predicateCount;
            case 5:
                return ran ? tuples.count : 0;
            case 6:
                return lastSteps;
            case 7:
                return lastRounds;
            case 8:
                return ran ? clauses.layerCount : 0;
            default:
                return reader.names.count;
        }
    }

    /** The ARGS of a HEAD or ATOM, or the two VALUES of another GOAL. */
    private static final class Goal {
        final int[] kinds = new int[ARGS];
        final int[] slots = new int[ARGS];
        final int[] places = new int[ARGS];
        final long[] values = new long[ARGS];
        int kind;
        int size;
        long word;
        int place;
        int predicate;
        /** The first ARG whose value stands before a TUPLE is taken, or -1. */
        int guide;
        /** Which of the RULE'S ATOMS this is. */
        int order;
        /** The slot of the VARIABLE that is sets. */
        int target;
        int tally;
        int tallyAt;
        int tallySlot;
        int tallyPlace;

        void start(int newKind, long newWord, int newPlace) {
            kind = newKind;
            word = newWord;
            place = newPlace;
            size = 0;
            predicate = -1;
            guide = -1;
            tally = NO_TALLY;
            // Rows are compared whole, so what no ARG fills has to be always the same.
            Arrays.fill(values, 0L);
        }

        void put(int termKind, int termPlace, int slot, long value) {
            if (size < ARGS) {
                kinds[size] = termKind;
                places[size] = termPlace;
                slots[size] = slot;
                values[size] = value;
                size++;
            }
        }
    }

    private static final class Rule {
        final Goal head = new Goal();
        final Goal[] goals = new Goal[GOALS];
        int goalCount;
        int atomCount;

        Rule() {
            for (int i = 0; i < GOALS; i++) {
                goals[i] = new Goal();
            }
        }

        /** The HEAD stands in where there is none, so that no caller meets null. */
        Goal goal(int i) {
            Goal found = i >= 0 && i < GOALS ? goals[i] : null;
            return found == null ? head : found;
        }
    }

    /** NAMES of CONSTANTS in the order in which they were first read. */
    private static final class Names {
        final long[] words = new long[NAMES];
        int count;

        /** Answers the NAME'S number, or -1 if there is no room for it. */
        int numberOf(long word) {
            for (int i = 0; i < count; i++) {
                if (words[i] == word) {
                    return i;
                }
            }
            if (count >= NAMES) {
                return -1;
            }
            words[count] = word;
            count++;
            return count - 1;
        }

        long wordOf(int number) {
            return number >= 0 && number < count ? words[number] : 0L;
        }
    }

    /** What is told: PREDICATES, FACTS and RULES, and the LAYERS that follow from them. */
    private static final class Clauses {
        final long[] predicateWords = new long[PREDICATES];
        final int[] predicateSizes = new int[PREDICATES];
        final int[] layers = new int[PREDICATES];
        final int[] factPredicates = new int[FACTS];
        final long[] factValues = new long[FACTS * ARGS];
        /** The one behind the last RULE is where the next text is read into. */
        final Rule[] rules = new Rule[RULES + 1];
        final Rule standIn = new Rule();
        int predicateCount;
        int layerCount;
        int factCount;
        int ruleCount;
        int markedPredicates;
        int markedFacts;
        int markedRules;

        Clauses() {
            for (int i = 0; i <= RULES; i++) {
                rules[i] = new Rule();
            }
        }

        Rule rule(int i) {
            Rule found = i >= 0 && i <= RULES ? rules[i] : null;
            return found == null ? standIn : found;
        }

        void mark() {
            markedPredicates = predicateCount;
            markedFacts = factCount;
            markedRules = ruleCount;
        }

        void goBack() {
            predicateCount = markedPredicates;
            factCount = markedFacts;
            ruleCount = markedRules;
        }

        boolean isChanged() {
            return factCount != markedFacts || ruleCount != markedRules;
        }

        int predicateOf(long word, int size) {
            for (int i = 0; i < predicateCount; i++) {
                if (predicateWords[i] == word && predicateSizes[i] == size) {
                    return i;
                }
            }
            return -1;
        }

        /** Answers the new PREDICATE, or -1 if it is one too many. */
        int addPredicate(long word, int size) {
            if (predicateCount >= PREDICATES) {
                return -1;
            }
            predicateWords[predicateCount] = word;
            predicateSizes[predicateCount] = size;
            predicateCount++;
            return predicateCount - 1;
        }

        int factOf(Goal head) {
            for (int i = 0; i < factCount; i++) {
                if (factPredicates[i] == head.predicate && isFact(i, head)) {
                    return i;
                }
            }
            return -1;
        }

        private boolean isFact(int fact, Goal head) {
            for (int k = 0; k < ARGS; k++) {
                if (factValues[fact * ARGS + k] != head.values[k]) {
                    return false;
                }
            }
            return true;
        }

        /** Answers whether there was room. */
        boolean addFact(Goal head) {
            if (factCount >= FACTS) {
                return false;
            }
            factPredicates[factCount] = head.predicate;
            System.arraycopy(head.values, 0, factValues, factCount * ARGS, ARGS);
            factCount++;
            return true;
        }

        void removeFact(int fact) {
            int behind = factCount - fact - 1;
            if (fact < 0 || behind < 0) {
                return;
            }
            System.arraycopy(factPredicates, fact + 1, factPredicates, fact, behind);
            System.arraycopy(factValues, (fact + 1) * ARGS, factValues, fact * ARGS, behind * ARGS);
            factCount--;
        }

        /** Keeps the RULE that was read behind the others; answers whether there was room. */
        boolean keepRule() {
            if (ruleCount >= RULES) {
                return false;
            }
            ruleCount++;
            return true;
        }

        /** The RULE that goes becomes the one that the next text is read into. */
        void removeRule(int r) {
            Rule gone = rule(r);
            for (int i = r; i < ruleCount - 1; i++) {
                rules[i] = rules[i + 1];
            }
            ruleCount--;
            rules[ruleCount] = gone;
        }

        /** Works out the LAYERS; answers false if none are so. */
        boolean layOut() {
            Arrays.fill(layers, 0);
            boolean raised = true;
            // Each pass raises a LAYER by one at least, and none may reach the number of PREDICATES.
            for (int pass = 0; raised && pass <= PREDICATES * PREDICATES; pass++) {
                raised = false;
                for (int r = 0; r < ruleCount; r++) {
                    Rule rule = rule(r);
                    int least = leastLayer(rule);
                    if (least >= predicateCount) {
                        return false;
                    }
                    if (layers[rule.head.predicate] < least) {
                        layers[rule.head.predicate] = least;
                        raised = true;
                    }
                }
            }
            layerCount = 0;
            for (int p = 0; p < predicateCount; p++) {
                layerCount = Math.max(layerCount, layers[p] + 1);
            }
            return true;
        }

        private int leastLayer(Rule rule) {
            int least = 0;
            for (int g = 0; g < rule.goalCount; g++) {
                Goal goal = rule.goal(g);
                if (goal.kind == ATOM || goal.kind == NO_ATOM) {
                    boolean above = goal.kind == NO_ATOM || rule.head.tally != NO_TALLY;
                    least = Math.max(least, layers[goal.predicate] + (above ? 1 : 0));
                }
            }
            return least;
        }
    }

    /** THE TAPE, and the reading of it; what reads answers false once the text is BROKEN. */
    private static final class Reader {
        final Clauses clauses;
        final Names names = new Names();
        final byte[] tape = new byte[TAPE_BYTES];
        int length;
        /** The PLACE where the latest text is BROKEN. */
        int broken;
        /** One bit for each VARIABLE that is KNOWN. */
        int known;
        private int at;
        private int purpose;
        private long word;
        private int wordPlace;
        private long number;
        private final long[] variables = new long[VARIABLES];
        private final int[] seen = new int[VARIABLES];
        private int variableCount;
        /** ARGS of ! ATOMS that were not KNOWN: they may stand in no other place. */
        private final int[] strayPlaces = new int[GOALS * ARGS];
        private final int[] straySlots = new int[GOALS * ARGS];
        private int strayCount;

        Reader(Clauses clauses) {
            this.clauses = clauses;
        }

        void take(int four) {
            for (int shift = 24; shift >= 0 && length < TAPE_BYTES; shift -= 8) {
                tape[length] = (byte) (four >>> shift);
                length++;
            }
        }

        void empty() {
            length = 0;
        }

        void start(int newPurpose) {
            purpose = newPurpose;
            at = 0;
            startClause();
        }

        private void startClause() {
            variableCount = 0;
            strayCount = 0;
            known = 0;
        }

        private boolean fail(int place) {
            broken = place;
            return false;
        }

        /** Goes to the next byte that is no blank and answers it, -1 if there is none. */
        int look() {
            while (at < length && (tape[at] == 10 || tape[at] == 32)) {
                at++;
            }
            return at < length ? tape[at] & 255 : -1;
        }

        private static boolean isSmall(int sign) {
            return sign >= 'a' && sign <= 'z';
        }

        private static boolean isCapital(int sign) {
            return sign >= 'A' && sign <= 'Z';
        }

        private static boolean isDigit(int sign) {
            return sign >= '0' && sign <= '9';
        }

        /** The digit of base 38 that a byte behind a word's first is, 0 if it is none of the word. */
        private static int symbolOf(int sign) {
            if (sign >= 'a' && sign <= 'z') {
                return sign - 'a' + 1;
            }
            if (sign >= '0' && sign <= '9') {
                return sign - '0' + 27;
            }
            return sign == '_' ? 37 : 0;
        }

        /** Reads a NAME or VARIABLE whose first letter is at hand. */
        private boolean readWord() {
            wordPlace = at;
            // Small letters and capitals have the same last five bits, a and A being 1.
            word = at < length ? tape[at] & 31 : 0;
            at++;
            int symbol = at < length ? symbolOf(tape[at]) : 0;
            while (symbol > 0 && at < length) {
                // A word that is too long is BROKEN, so it matters not that its number wraps.
                word = word * WORD_BASE + symbol;
                at++;
                symbol = at < length ? symbolOf(tape[at]) : 0;
            }
            return at - wordPlace <= WORD_BYTES || fail(wordPlace);
        }

        /** Reads a number whose first digit, or the - ahead of it, is at hand. */
        private boolean readNumber() {
            int place = at;
            boolean minus = at < length && tape[at] == '-';
            if (minus) {
                at++;
            }
            int first = at;
            number = 0;
            while (at < length && isDigit(tape[at])) {
                number = number * 10 + (tape[at] - '0');
                at++;
            }
            if (at == first || at - first > DIGITS) {
                return fail(place);
            }
            number = minus ? -number : number;
            return true;
        }

        boolean readHead(Rule rule) {
            startClause();
            rule.goalCount = 0;
            rule.atomCount = 0;
            if (!isSmall(look())) {
                return fail(at);
            }
            return readWord() && readAtom(rule.head, HEAD);
        }

        /** Reads from behind the NAME on. */
        private boolean readAtom(Goal goal, int kind) {
            goal.start(kind, word, wordPlace);
            int knownAhead = known;
            if (look() != '(') {
                return fail(at);
            }
            at++;
            for (int i = 0; i < ARGS; i++) {
                if (!readArg(goal)) {
                    return false;
                }
                if (goal.guide < 0 && stands(goal, i, knownAhead)) {
                    goal.guide = i;
                }
                int sign = look();
                if (sign != ')' && sign != ',') {
                    return fail(at);
                }
                at++;
                if (sign == ')') {
                    return findPredicate(goal);
                }
            }
            look();
            return fail(at);
        }

        private static boolean stands(Goal goal, int arg, int knownAhead) {
            boolean variable = goal.kinds[arg] == BOUND && (knownAhead >> goal.slots[arg] & 1) == 1;
            return goal.kinds[arg] == CONSTANT || variable;
        }

        private boolean findPredicate(Goal goal) {
            goal.predicate = clauses.predicateOf(goal.word, goal.size);
            if (goal.predicate < 0 && purpose == TELLING) {
                goal.predicate = clauses.addPredicate(goal.word, goal.size);
            }
            return goal.predicate >= 0 || purpose == NAMING || fail(goal.place);
        }

        private boolean readArg(Goal goal) {
            int sign = look();
            if (isCapital(sign)) {
                return readWord() && putVariable(goal);
            }
            if (sign == '#' && goal.kind == HEAD) {
                return readTally(goal);
            }
            if (sign == '_' && goal.kind != HEAD) {
                goal.put(ANYTHING, at, 0, 0L);
                at++;
                return true;
            }
            return readConstant(goal);
        }

        /** Puts the VARIABLE that was read as an ARG. */
        private boolean putVariable(Goal goal) {
            int slot = meet(word);
            if (slot < 0) {
                return fail(wordPlace);
            }
            if (goal.kind == HEAD || isKnown(slot)) {
                goal.put(BOUND, wordPlace, slot, 0L);
            } else if (goal.kind == ATOM) {
                goal.put(FREE, wordPlace, slot, 0L);
                known |= 1 << slot;
            } else {
                goal.put(ANYTHING, wordPlace, slot, 0L);
                addStray(slot);
            }
            return true;
        }

        private void addStray(int slot) {
            if (strayCount < GOALS * ARGS) {
                strayPlaces[strayCount] = wordPlace;
                straySlots[strayCount] = slot;
                strayCount++;
            }
        }

        private boolean isKnown(int slot) {
            return (known >> slot & 1) == 1;
        }

        private int slotOf(long variable) {
            for (int i = 0; i < variableCount; i++) {
                if (variables[i] == variable) {
                    return i;
                }
            }
            return -1;
        }

        /** The slot of a VARIABLE that stands here, -1 if it is one too many. */
        private int meet(long variable) {
            int slot = slotOf(variable);
            if (slot >= 0) {
                seen[slot]++;
                return slot;
            }
            if (variableCount >= VARIABLES) {
                return -1;
            }
            variables[variableCount] = variable;
            seen[variableCount] = 1;
            variableCount++;
            return variableCount - 1;
        }

        private boolean readTally(Goal head) {
            if (head.tally != NO_TALLY) {
                return fail(at);
            }
            head.tallyAt = head.size;
            head.put(TALLY, at, 0, 0L);
            at++;
            if (!isSmall(look())) {
                return fail(at);
            }
            if (!readWord()) {
                return false;
            }
            head.tally = tallyOf(word);
            if (head.tally == NO_TALLY) {
                return fail(wordPlace);
            }
            if (head.tally == WAYS) {
                return true;
            }
            if (!isCapital(look())) {
                return fail(at);
            }
            if (!readWord()) {
                return false;
            }
            head.tallyPlace = wordPlace;
            head.tallySlot = meet(word);
            return head.tallySlot >= 0 || fail(wordPlace);
        }

        private static int tallyOf(long tallyWord) {
            if (tallyWord == COUNT_WORD) {
                return WAYS;
            }
            if (tallyWord == SUM_WORD) {
                return SUM;
            }
            if (tallyWord == MIN_WORD) {
                return LEAST;
            }
            return tallyWord == MAX_WORD ? GREATEST : NO_TALLY;
        }

        private boolean readConstant(Goal goal) {
            int sign = look();
            int place = at;
            if (isSmall(sign)) {
                return readWord() && putName(goal, word, place);
            }
            if (!isDigit(sign) && sign != '-') {
                return fail(at);
            }
            if (!readNumber()) {
                return false;
            }
            goal.put(CONSTANT, place, 0, number);
            return true;
        }

        private boolean putName(Goal goal, long name, int place) {
            int nameNumber = names.numberOf(name);
            goal.put(CONSTANT, place, 0, NAME_BASE + nameNumber);
            return nameNumber >= 0 || fail(place);
        }

        /** Reads the . of a FACT. */
        boolean readStop(Goal head) {
            if (look() != '.') {
                return fail(at);
            }
            at++;
            return areConstants(head);
        }

        boolean areConstants(Goal head) {
            for (int i = 0; i < head.size; i++) {
                if (head.kinds[i] != CONSTANT) {
                    return fail(head.places[i]);
                }
            }
            return true;
        }

        boolean readNothing() {
            return look() < 0 || fail(at);
        }

        /** Reads the end of a FACT that is told, and keeps it if it is new. */
        boolean readFactEnd(Goal head) {
            if (!readStop(head)) {
                return false;
            }
            return clauses.factOf(head) >= 0 || clauses.addFact(head) || fail(head.place);
        }

        /** Reads the :- of a RULE. */
        boolean readRuleSign(Goal head) {
            if (look() != ':') {
                return fail(at);
            }
            at++;
            if (at >= length || tape[at] != '-') {
                return fail(at);
            }
            at++;
            return clauses.ruleCount < RULES || fail(head.place);
        }

        /** Reads GOALS with the . behind them, or, when asked, to the end of the text. */
        boolean readGoals(Rule rule) {
            int last = purpose == ASKING ? -1 : '.';
            rule.goalCount = 0;
            rule.atomCount = 0;
            while (rule.goalCount < GOALS) {
                Goal goal = rule.goal(rule.goalCount);
                if (!readGoal(goal)) {
                    return false;
                }
                rule.goalCount++;
                if (goal.kind == ATOM) {
                    goal.order = rule.atomCount;
                    rule.atomCount++;
                }
                int sign = look();
                if (sign == last) {
                    at++;
                    return purpose == ASKING ? areStraysAlone() : isHeadKnown(rule.head) && areStraysAlone();
                }
                if (sign != ',') {
                    return fail(at);
                }
                at++;
            }
            look();
            return fail(at);
        }

        private boolean isHeadKnown(Goal head) {
            for (int i = 0; i < head.size; i++) {
                if (head.kinds[i] == BOUND && !isKnown(head.slots[i])) {
                    return fail(head.places[i]);
                }
                if (head.kinds[i] == TALLY && head.tally != WAYS && !isKnown(head.tallySlot)) {
                    return fail(head.tallyPlace);
                }
            }
            return true;
        }

        private boolean areStraysAlone() {
            for (int i = 0; i < strayCount; i++) {
                if (seen[straySlots[i]] > 1) {
                    return fail(strayPlaces[i]);
                }
            }
            return true;
        }

        private boolean readGoal(Goal goal) {
            int sign = look();
            int place = at;
            if (sign == '!') {
                at++;
                if (!isSmall(look())) {
                    return fail(at);
                }
                return readWord() && readAtom(goal, NO_ATOM);
            }
            if (isCapital(sign)) {
                if (!readWord()) {
                    return false;
                }
                return isSmall(look()) ? readReckoning(goal, word, place) : readComparison(goal, word, place);
            }
            if (isSmall(sign)) {
                if (!readWord()) {
                    return false;
                }
                if (look() == '(') {
                    return readAtom(goal, ATOM);
                }
                // What is no ATOM'S NAME is a CONSTANT'S, and counts as read even if no sign follows.
                goal.start(SAME, 0L, place);
                return putName(goal, word, place) && readSign(goal) && readValue(goal);
            }
            if (!isDigit(sign) && sign != '-') {
                return fail(at);
            }
            if (!readNumber()) {
                return false;
            }
            goal.start(SAME, 0L, place);
            goal.put(CONSTANT, place, 0, number);
            return readSign(goal) && readValue(goal);
        }

        /** Reads < or = or <> . */
        private boolean readSign(Goal goal) {
            int sign = look();
            if (sign != '<' && sign != '=') {
                return fail(at);
            }
            goal.kind = sign == '<' ? LESS : SAME;
            at++;
            if (sign == '<' && at < length && tape[at] == '>') {
                goal.kind = OTHER;
                at++;
            }
            return true;
        }

        /** Reads from behind the VARIABLE at a GOAL'S beginning on. */
        private boolean readComparison(Goal goal, long variable, int place) {
            goal.start(SAME, 0L, place);
            return readSign(goal) && putKnown(goal, variable, place) && readValue(goal);
        }

        private boolean putKnown(Goal goal, long variable, int place) {
            int slot = slotOf(variable);
            if (slot < 0 || !isKnown(slot)) {
                return fail(place);
            }
            seen[slot]++;
            goal.put(BOUND, place, slot, 0L);
            return true;
        }

        /** Reads from the is behind the VARIABLE at a GOAL'S beginning on. */
        private boolean readReckoning(Goal goal, long variable, int place) {
            if (!readWord()) {
                return false;
            }
            if (word != IS) {
                return fail(wordPlace);
            }
            goal.start(PLUS, 0L, place);
            goal.target = meet(variable);
            if (goal.target < 0 || isKnown(goal.target)) {
                return fail(place);
            }
            if (!readValue(goal)) {
                return false;
            }
            int sign = look();
            if (sign != '+' && sign != '-' && sign != '*') {
                return fail(at);
            }
            at++;
            goal.kind = sign == '+' ? PLUS : sign == '-' ? MINUS : TIMES;
            if (!readValue(goal)) {
                return false;
            }
            known |= 1 << goal.target;
            return true;
        }

        private boolean readValue(Goal goal) {
            if (!isCapital(look())) {
                return readConstant(goal);
            }
            return readWord() && putKnown(goal, word, wordPlace);
        }
    }

    /** Rising numbers in chains, all numbers of one key in the same chain. */
    private static final class Chains {
        /** The golden ratio's bits, which spread near keys over all chains. */
        private static final long SPREAD = 0x9E3779B97F4A7C15L;
        private final int shift;
        private final int[] first;
        private final int[] last;
        private final int[] next;

        /** There are as many chains as fit the bits, 1 to 20. */
        Chains(int bits, int members) {
            int wanted = Math.max(1, Math.min(20, bits));
            shift = 64 - wanted;
            first = new int[1 << wanted];
            last = new int[1 << wanted];
            next = new int[Math.max(1, members)];
            Arrays.fill(first, -1);
        }

        void clear() {
            Arrays.fill(first, -1);
        }

        void append(long key, int member) {
            int chain = (int) (key * SPREAD >>> shift);
            if (chain >= first.length || member < 0 || member >= next.length) {
                return;
            }
            next[member] = -1;
            if (first[chain] < 0) {
                first[chain] = member;
            } else {
                next[last[chain]] = member;
            }
            last[chain] = member;
        }

        /** The first of a chain that has all members of the key, and maybe others. */
        int firstOf(long key) {
            int chain = (int) (key * SPREAD >>> shift);
            return chain < first.length ? first[chain] : -1;
        }

        int nextOf(int member) {
            return member >= 0 && member < next.length ? next[member] : -1;
        }
    }

    private static final class Tuples {
        final long[] values = new long[TUPLES * ARGS];
        final int[] predicates = new int[TUPLES];
        final int[] rounds = new int[TUPLES];
        final int[] rules = new int[TUPLES];
        final int[] took = new int[TUPLES * GOALS];
        final int[] tookCounts = new int[TUPLES];
        /** The ARGS of a TUPLE that is sought or comes. */
        final long[] draft = new long[ARGS];
        int count;
        private final Chains byPredicate = new Chains(6, TUPLES);
        private final Chains byArg = new Chains(12, TUPLES * ARGS);
        private final Chains whole = new Chains(11, TUPLES);

        void clear() {
            count = 0;
            byPredicate.clear();
            byArg.clear();
            whole.clear();
        }

        private long wholeKey(int predicate) {
            long mixed = predicate;
            for (int k = 0; k < ARGS; k++) {
                mixed = mixed * MIX + draft[k];
            }
            return mixed;
        }

        private static long argKey(int predicate, int arg, long value) {
            return value * MIX + predicate * ARGS + arg;
        }

        /** The TUPLE that is as the draft, -1 if there is none. */
        int numberOf(int predicate) {
            int t = whole.firstOf(wholeKey(predicate));
            for (int met = 0; t >= 0 && met < TUPLES; met++) {
                if (predicates[t] == predicate && isDraft(t)) {
                    return t;
                }
                t = whole.nextOf(t);
            }
            return -1;
        }

        private boolean isDraft(int t) {
            for (int k = 0; k < ARGS; k++) {
                if (values[t * ARGS + k] != draft[k]) {
                    return false;
                }
            }
            return true;
        }

        /** The draft comes; answers whether there was room. */
        boolean add(int predicate, int round, int rule) {
            if (count >= TUPLES) {
                return false;
            }
            predicates[count] = predicate;
            rounds[count] = round;
            rules[count] = rule;
            tookCounts[count] = 0;
            byPredicate.append(predicate, count);
            whole.append(wholeKey(predicate), count);
            for (int k = 0; k < ARGS; k++) {
                values[count * ARGS + k] = draft[k];
                byArg.append(argKey(predicate, k, draft[k]), count * ARGS + k);
            }
            count++;
            return true;
        }

        /** The first TUPLE of the PREDICATE from a number on, -1 if there is none. */
        int firstFrom(int predicate, int least) {
            if (least <= 0) {
                return byPredicate.firstOf(predicate);
            }
            for (int t = least; t < count; t++) {
                if (predicates[t] == predicate) {
                    return t;
                }
            }
            return -1;
        }

        int nextOf(int t) {
            return byPredicate.nextOf(t);
        }

        /** The first TUPLE that may have this ARG: others share its chain. */
        int firstWith(int predicate, int arg, long value) {
            return withArg(byArg.firstOf(argKey(predicate, arg, value)), arg);
        }

        int nextWith(int t, int arg) {
            return withArg(byArg.nextOf(t * ARGS + arg), arg);
        }

        private int withArg(int member, int arg) {
            int found = member;
            for (int met = 0; found >= 0 && met < TUPLES * ARGS; met++) {
                if (found % ARGS == arg) {
                    return found / ARGS;
                }
                found = byArg.nextOf(found);
            }
            return -1;
        }
    }

    /** The rows of one RULE with # , in the order in which they are met. */
    private static final class Rows {
        final long[] keys = new long[TUPLES * ARGS];
        final int[] amounts = new int[TUPLES];
        /** Whether the row's amount is one. */
        final boolean[] counted = new boolean[TUPLES];
        int count;
        private final Chains whole = new Chains(9, TUPLES);

        void clear() {
            count = 0;
            whole.clear();
        }

        private static long keyOf(long[] draft) {
            long mixed = 0;
            for (int k = 0; k < ARGS; k++) {
                mixed = mixed * MIX + draft[k];
            }
            return mixed;
        }

        private boolean isRow(int row, long[] draft) {
            for (int k = 0; k < ARGS; k++) {
                if (keys[row * ARGS + k] != draft[k]) {
                    return false;
                }
            }
            return true;
        }

        /** The draft's row, made if it is new; -1 if it is one too many. */
        int rowOf(long[] draft) {
            long key = keyOf(draft);
            int row = whole.firstOf(key);
            for (int met = 0; row >= 0 && met < TUPLES; met++) {
                if (isRow(row, draft)) {
                    return row;
                }
                row = whole.nextOf(row);
            }
            if (count >= TUPLES) {
                return -1;
            }
            System.arraycopy(draft, 0, keys, count * ARGS, ARGS);
            amounts[count] = 0;
            counted[count] = false;
            whole.append(key, count);
            count++;
            return count - 1;
        }

        void countWay(int row) {
            amounts[row]++;
            counted[row] = true;
        }

        void addValue(int row, long value) {
            counted[row] = true;
            if (isNumber(value)) {
                amounts[row] += (int) value;
            }
        }

        void keepLeast(int row, long value) {
            if (isNumber(value)) {
                amounts[row] = counted[row] ? Math.min(amounts[row], (int) value) : (int) value;
                counted[row] = true;
            }
        }

        void keepGreatest(int row, long value) {
            if (isNumber(value)) {
                amounts[row] = counted[row] ? Math.max(amounts[row], (int) value) : (int) value;
                counted[row] = true;
            }
        }
    }

    /** What an ask found: all WAYS counted, the first of them kept. */
    private static final class Answers {
        final long[] values = new long[ANSWERS * VARIABLES];
        int ways;
        /** One bit for each VARIABLE that is KNOWN. */
        int known;

        void clear() {
            ways = 0;
            known = 0;
        }

        void keep(long[] bound) {
            if (ways < ANSWERS) {
                System.arraycopy(bound, 0, values, ways * VARIABLES, VARIABLES);
            }
            ways++;
        }
    }

    /** Goes all WAYS of a RULE or question. */
    private static final class Engine {
        int steps;
        private final Clauses clauses;
        private final Tuples tuples;
        private final Rows rows = new Rows();
        private final long[] bound = new long[VARIABLES];
        private final int[] taken = new int[GOALS];
        private Answers answers = new Answers();
        private Rule rule = new Rule();
        private int ruleNumber;
        private int purpose;
        private int round;
        /** TUPLES from here on came too late to be taken. */
        private int limit;
        /** TUPLES from here on came in the ROUND before. */
        private int freshFrom;
        private int freshTaken;

        Engine(Clauses clauses, Tuples tuples) {
            this.clauses = clauses;
            this.tuples = tuples;
        }

        void clear() {
            tuples.clear();
            steps = 0;
        }

        void bringFacts(int layer) {
            for (int f = 0; f < clauses.factCount; f++) {
                int predicate = clauses.factPredicates[f];
                if (clauses.layers[predicate] == layer) {
                    System.arraycopy(clauses.factValues, f * ARGS, tuples.draft, 0, ARGS);
                    bring(predicate, 0, -1);
                }
            }
        }

        /** The draft comes, if it is not there; answers whether it does. */
        private boolean bring(int predicate, int itsRound, int itsRule) {
            if (tuples.numberOf(predicate) >= 0) {
                return false;
            }
            if (!tuples.add(predicate, itsRound, itsRule)) {
                throw new IndexOutOfBoundsException();
            }
            return true;
        }

        private void begin(int newPurpose, int newRound, Rule newRule, int newNumber) {
            purpose = newPurpose;
            round = newRound;
            rule = newRule;
            ruleNumber = newNumber;
            freshTaken = 0;
        }

        private boolean isOfLayer(Rule one, int layer) {
            return clauses.layers[one.head.predicate] == layer;
        }

        void bringTallies(int layer) {
            for (int r = 0; r < clauses.ruleCount; r++) {
                Rule next = clauses.rule(r);
                if (next.head.tally != NO_TALLY && isOfLayer(next, layer)) {
                    begin(TALLYING, 0, next, r);
                    limit = tuples.count;
                    rows.clear();
                    walk(0);
                    bringRows(next.head, r);
                }
            }
        }

        private void bringRows(Goal head, int number) {
            for (int row = 0; row < rows.count; row++) {
                if (rows.counted[row]) {
                    System.arraycopy(rows.keys, row * ARGS, tuples.draft, 0, ARGS);
                    tuples.draft[head.tallyAt] = rows.amounts[row];
                    bring(head.predicate, 0, number);
                }
            }
        }

        /** Answers how many ROUNDS the LAYER has. */
        int playRounds(int layer) {
            freshFrom = tuples.count;
            int played = 0;
            boolean isNew = true;
            // Each ROUND but the last brings a TUPLE at least.
            while (isNew && played <= TUPLES) {
                played++;
                limit = tuples.count;
                for (int r = 0; r < clauses.ruleCount; r++) {
                    Rule next = clauses.rule(r);
                    boolean due = played == 1 || next.atomCount > 0;
                    if (due && next.head.tally == NO_TALLY && isOfLayer(next, layer)) {
                        begin(DERIVING, played, next, r);
                        walk(0);
                    }
                }
                freshFrom = limit;
                isNew = tuples.count > limit;
            }
            return played;
        }

        void answerAll(Rule question, Answers into) {
            begin(ANSWERING, 0, question, -1);
            answers = into;
            limit = tuples.count;
            steps = 0;
            walk(0);
        }

        /** Goes on with GOAL g; a RULE'S eight GOALS keep the depth low. */
        private void walk(int g) {
            if (g >= rule.goalCount || g >= GOALS) {
                arrive();
                return;
            }
            Goal goal = rule.goal(g);
            if (goal.kind == ATOM) {
                takeEach(goal, g);
            } else if (goal.kind == NO_ATOM ? !isAny(goal) : isTrue(goal)) {
                walk(g + 1);
            }
        }

        private void takeEach(Goal goal, int g) {
            boolean freshAlone = round > 1 && freshTaken == 0 && goal.order == rule.atomCount - 1;
            int least = freshAlone ? freshFrom : 0;
            int t = firstFor(goal, least);
            for (int met = 0; t >= 0 && t < limit && met < TUPLES; met++) {
                if (t >= least && fits(goal, t)) {
                    takeOne(goal, t);
                    int fresh = t >= freshFrom ? 1 : 0;
                    freshTaken += fresh;
                    walk(g + 1);
                    freshTaken -= fresh;
                }
                t = nextFor(goal, t);
            }
        }

        private void takeOne(Goal goal, int t) {
            steps++;
            if (steps > STEPS) {
                throw new ArithmeticException();
            }
            taken[goal.order] = t;
        }

        private boolean isAny(Goal goal) {
            int t = firstFor(goal, 0);
            for (int met = 0; t >= 0 && t < limit && met < TUPLES; met++) {
                if (fits(goal, t)) {
                    return true;
                }
                t = nextFor(goal, t);
            }
            return false;
        }

        private int firstFor(Goal goal, int least) {
            if (goal.guide < 0) {
                return tuples.firstFrom(goal.predicate, least);
            }
            return tuples.firstWith(goal.predicate, goal.guide, valueOf(goal, goal.guide));
        }

        private int nextFor(Goal goal, int t) {
            return goal.guide < 0 ? tuples.nextOf(t) : tuples.nextWith(t, goal.guide);
        }

        private long valueOf(Goal goal, int arg) {
            return goal.kinds[arg] == BOUND ? bound[goal.slots[arg]] : goal.values[arg];
        }

        /** Whether the TUPLE has what the ATOM asks; its other VARIABLES become the TUPLE'S. */
        private boolean fits(Goal goal, int t) {
            if (tuples.predicates[t] != goal.predicate) {
                return false;
            }
            for (int k = 0; k < goal.size; k++) {
                long value = tuples.values[t * ARGS + k];
                int kind = goal.kinds[k];
                if (kind == FREE) {
                    bound[goal.slots[k]] = value;
                } else if (kind != ANYTHING && valueOf(goal, k) != value) {
                    return false;
                }
            }
            return true;
        }

        private boolean isTrue(Goal goal) {
            long left = valueOf(goal, 0);
            long right = valueOf(goal, 1);
            if (goal.kind == SAME) {
                return left == right;
            }
            if (goal.kind == OTHER) {
                return left != right;
            }
            if (!isNumber(left) || !isNumber(right)) {
                return false;
            }
            if (goal.kind == LESS) {
                return left < right;
            }
            // Both are ints, so a long holds what comes of them.
            long result = goal.kind == PLUS ? left + right : goal.kind == MINUS ? left - right : left * right;
            bound[goal.target] = result;
            return result >= -GREATEST_RESULT && result <= GREATEST_RESULT;
        }

        /** All GOALS are true: here is a WAY. */
        private void arrive() {
            if (purpose == ANSWERING) {
                answers.keep(bound);
                return;
            }
            Goal head = rule.head;
            for (int k = 0; k < ARGS; k++) {
                tuples.draft[k] = k < head.size ? valueOf(head, k) : 0L;
            }
            if (purpose == TALLYING) {
                tallyWay(head);
            } else if (bring(head.predicate, round, ruleNumber)) {
                int newest = tuples.count - 1;
                tuples.tookCounts[newest] = rule.atomCount;
                System.arraycopy(taken, 0, tuples.took, newest * GOALS, rule.atomCount);
            }
        }

        private void tallyWay(Goal head) {
            int row = rows.rowOf(tuples.draft);
            if (row < 0) {
                throw new IndexOutOfBoundsException();
            }
            if (head.tally == WAYS) {
                rows.countWay(row);
                return;
            }
            long value = bound[head.tallySlot];
            if (head.tally == SUM) {
                rows.addValue(row, value);
            } else if (head.tally == LEAST) {
                rows.keepLeast(row, value);
            } else {
                rows.keepGreatest(row, value);
            }
        }
    }

    /** OUT: a TUPLE as a text. */
    private static final class Out {
        final byte[] bytes = new byte[OUT_BYTES];
        int count;

        void clear() {
            count = 0;
        }

        void write(int sign) {
            if (count < OUT_BYTES) {
                bytes[count] = (byte) sign;
                count++;
            }
        }

        void writeWord(long word) {
            long scale = 1;
            for (int k = 1; k < WORD_BYTES && scale <= word / WORD_BASE; k++) {
                scale *= WORD_BASE;
            }
            for (long rest = word; scale > 0; scale /= WORD_BASE) {
                write(signOf((int) (rest / scale)));
                rest %= scale;
            }
        }

        private static int signOf(int symbol) {
            if (symbol <= 26) {
                return symbol + 'a' - 1;
            }
            return symbol <= 36 ? symbol + '0' - 27 : '_';
        }

        void writeNumber(long number) {
            long rest = number;
            if (rest < 0) {
                write('-');
                rest = -rest;
            }
            long scale = 1;
            for (int k = 0; k < 18 && scale <= rest / 10; k++) {
                scale *= 10;
            }
            for (; scale > 0; scale /= 10) {
                write('0' + (int) (rest / scale));
                rest %= scale;
            }
        }
    }
}
