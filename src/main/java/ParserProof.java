import java.util.Arrays;

/**
 * Makes the canonical LR(1) automaton of a grammar, lets anybody change it, says whether an
 * automaton can be trusted, by looking at each state with its neighbours alone, and parses by it.
 */
public final class ParserProof {
    private static final int FIRST_TERMINAL = 4;
    private static final int END = 9;
    private static final int SYMBOLS = 10;

    private static final int MOST_RULES = 8;
    private static final int MOST_LENGTH = 4;
    private static final int DOTS = MOST_LENGTH + 1;
    private static final int CORES = (MOST_RULES + 1) * DOTS;
    private static final int MOST_STATES = 50;
    private static final int MOST_INPUT = 20;
    private static final int MOST_NODES = 60;
    private static final int MOST_STEPS = 400;

    private static final int NONE = -1;
    private static final int REDUCE = 100;
    private static final int ACCEPT = 200;

    private static final int GOOD = 0;
    private static final int UNFOUNDED = 1;
    private static final int FOREIGN = 2;
    private static final int BOLD = 3;
    private static final int HOMELESS = 4;
    private static final int ROOTLESS = 5;
    private static final int OPEN = 6;
    private static final int LAZY = 7;
    private static final int SHY = 8;

    private static final int UNDECIDED = 0;
    private static final int ACCEPTED = 1;
    private static final int REJECTED = 2;
    private static final int INTERNAL = 3;
    private static final int NO_ROOM = 4;

    private final Grammar grammar;
    private final Automaton automaton;
    private final Builder builder;
    private final Checker checker;
    private final Parser parser;

    public ParserProof() {
        grammar = new Grammar();
        automaton = new Automaton();
        builder = new Builder(grammar, automaton);
        checker = new Checker(grammar, automaton);
        parser = new Parser(grammar, automaton);
    }

    public int rule(int coded) throws IllegalArgumentException, IllegalStateException {
        if (!Grammar.isCodedRule(coded)) {
            throw new IllegalArgumentException("no such rule");
        }
        if (grammar.count >= MOST_RULES) {
            throw new IllegalStateException("there are 8 rules");
        }
        dropAutomaton();
        return grammar.add(coded);
    }

    public void clear() {
        dropAutomaton();
        grammar.removeAll();
    }

    public int build() throws IllegalStateException, UnsupportedOperationException {
        if (grammar.count == 0) {
            throw new IllegalStateException("there are no rules");
        }
        dropAutomaton();
        if (!builder.makeCanonical()) {
            automaton.count = 0;
            throw new UnsupportedOperationException("a conflict, or too many states");
        }
        return automaton.count;
    }

    public int states() {
        return automaton.count;
    }

    public int entry(int state, int symbol) throws IndexOutOfBoundsException {
        requirePlace(state, symbol);
        return automaton.entryAt(state, symbol);
    }

    public void set(int state, int symbol, int entry) throws IndexOutOfBoundsException, IllegalArgumentException {
        requirePlace(state, symbol);
        if (!isEntry(entry)) {
            throw new IllegalArgumentException("no such entry");
        }
        automaton.putEntry(state, symbol, entry);
        parser.forget();
    }

    public boolean has(int state, int rule, int dot, int ahead) throws IndexOutOfBoundsException, IllegalArgumentException {
        requireItem(state, rule, dot, ahead);
        return automaton.holds(state, rule, dot, ahead);
    }

    public boolean turn(int state, int rule, int dot, int ahead) throws IndexOutOfBoundsException, IllegalArgumentException {
        requireItem(state, rule, dot, ahead);
        automaton.flip(state, rule, dot, ahead);
        return automaton.holds(state, rule, dot, ahead);
    }

    public int check() throws IllegalStateException {
        requireAutomaton();
        return checker.look();
    }

    public int fault(int what) {
        return checker.whereabouts(what);
    }

    public int feed(int terminal) {
        if (!isTerminal(terminal) || parser.inputLength >= MOST_INPUT) {
            return -1;
        }
        parser.forget();
        return parser.append(terminal);
    }

    public void empty() {
        parser.forget();
        parser.inputLength = 0;
    }

    public int parse(int steps) throws IllegalStateException, IllegalArgumentException {
        requireAutomaton();
        if (steps < 0 || steps > MOST_STEPS) {
            throw new IllegalArgumentException("steps are 0 to 400");
        }
        return parser.run(steps);
    }

    public int nodes() {
        return parser.nodeCount;
    }

    public int node(int i, int what) throws IndexOutOfBoundsException, IllegalArgumentException {
        if (i < 0 || i >= parser.nodeCount) {
            throw new IndexOutOfBoundsException("no such node");
        }
        if (what < 0 || what >= Parser.NODE_FIELDS) {
            throw new IllegalArgumentException("no such thing of a node");
        }
        return parser.nodeField(i, what);
    }

    public int depth() {
        return parser.height;
    }

    private void dropAutomaton() {
        automaton.count = 0;
        checker.forget();
        parser.forget();
    }

    private void requireAutomaton() {
        if (automaton.count == 0) {
            throw new IllegalStateException("there is no automaton");
        }
    }

    private void requireState(int state) {
        if (state < 0 || state >= automaton.count) {
            throw new IndexOutOfBoundsException("no such state");
        }
    }

    private void requirePlace(int state, int symbol) {
        requireState(state);
        if (symbol < 0 || symbol >= SYMBOLS) {
            throw new IndexOutOfBoundsException("no such symbol");
        }
    }

    private void requireItem(int state, int rule, int dot, int ahead) {
        requireState(state);
        if (!isItem(rule, dot, ahead)) {
            throw new IllegalArgumentException("no such item");
        }
    }

    private boolean isItem(int rule, int dot, int ahead) {
        if (rule < 0 || rule > grammar.top()) {
            return false;
        }
        return dot >= 0 && dot <= grammar.lengths[rule] && ahead >= FIRST_TERMINAL && ahead <= END;
    }

    private boolean isEntry(int entry) {
        if (entry == NONE || entry == ACCEPT) {
            return true;
        }
        if (entry >= REDUCE) {
            return entry - REDUCE <= grammar.top();
        }
        return entry >= 0 && entry < automaton.count;
    }

    private static boolean isNonterminal(int symbol) {
        return symbol >= 0 && symbol < FIRST_TERMINAL;
    }

    private static boolean isTerminal(int symbol) {
        return symbol >= FIRST_TERMINAL && symbol < END;
    }

    private static boolean isGo(int entry) {
        return entry >= 0 && entry < MOST_STATES;
    }

    /** The bit of a terminal or of the end in a set of them. */
    private static int bitOf(int ahead) {
        return 1 << (ahead - FIRST_TERMINAL);
    }

    /** The place of a rule with a dot in a row of all of them. */
    private static int coreOf(int rule, int dot) {
        return rule * DOTS + dot;
    }

    /** The rules, with the top behind the last of them, and what can be said of their rows. */
    private static final class Grammar {
        int count;
        final int[] makes = new int[MOST_RULES];
        final int[] lengths = new int[MOST_RULES + 1];
        final int[] rows = new int[(MOST_RULES + 1) * MOST_LENGTH];
        final boolean[] nullable = new boolean[FIRST_TERMINAL];
        final int[] firsts = new int[FIRST_TERMINAL];

        static int codedLength(int coded) {
            return (coded >>> 2) & 7;
        }

        static int codedSymbol(int coded, int place) {
            return (coded >>> (5 + 4 * place)) & 15;
        }

        static boolean isCodedRule(int coded) {
            int length = codedLength(coded);
            if (length > MOST_LENGTH) {
                return false;
            }
            for (int i = 0; i < length; i++) {
                if (codedSymbol(coded, i) >= END) {
                    return false;
                }
            }
            return true;
        }

        int add(int coded) {
            int rule = count;
            makes[rule] = coded & 3;
            lengths[rule] = codedLength(coded);
            for (int i = 0; i < lengths[rule]; i++) {
                rows[rule * MOST_LENGTH + i] = codedSymbol(coded, i);
            }
            count++;
            lengths[count] = 1;
            rows[count * MOST_LENGTH] = start();
            return rule;
        }

        void removeAll() {
            count = 0;
        }

        int top() {
            return count;
        }

        int start() {
            return makes[0];
        }

        int symbolAt(int rule, int place) {
            return rows[rule * MOST_LENGTH + place];
        }

        boolean isNullable(int rule) {
            for (int i = 0; i < lengths[rule]; i++) {
                int symbol = symbolAt(rule, i);
                if (!isNonterminal(symbol) || !nullable[symbol]) {
                    return false;
                }
            }
            return true;
        }

        /** The FIRST of a rule's row from a place on and of each one of the set aheads. */
        int firstOf(int rule, int from, int aheads) {
            int found = 0;
            for (int i = from; i < lengths[rule]; i++) {
                int symbol = symbolAt(rule, i);
                if (!isNonterminal(symbol)) {
                    return found | bitOf(symbol);
                }
                found |= firsts[symbol];
                if (!nullable[symbol]) {
                    return found;
                }
            }
            return found | aheads;
        }

        /**
         * What is nullable has to stand before the firsts are looked for. As many rounds as there
         * are nonterminals are enough for both: no reason need go through one of them twice.
         */
        void learn() {
            for (int nonterminal = 0; nonterminal < FIRST_TERMINAL; nonterminal++) {
                nullable[nonterminal] = false;
                firsts[nonterminal] = 0;
            }
            for (int round = 0; round < FIRST_TERMINAL; round++) {
                for (int rule = 0; rule < count; rule++) {
                    if (isNullable(rule)) {
                        nullable[makes[rule]] = true;
                    }
                }
            }
            for (int round = 0; round < FIRST_TERMINAL; round++) {
                for (int rule = 0; rule < count; rule++) {
                    firsts[makes[rule]] |= firstOf(rule, 0, 0);
                }
            }
        }
    }

    /** States with their entries and items; it has none while its count is 0. */
    private static final class Automaton {
        int count;
        final int[] entries = new int[MOST_STATES * SYMBOLS];
        // For each state, rule and dot the set of what is ahead: items that differ in this alone
        // are moved, closed and compared together.
        final int[] items = new int[MOST_STATES * CORES];

        int entryAt(int state, int symbol) {
            return entries[state * SYMBOLS + symbol];
        }

        void putEntry(int state, int symbol, int entry) {
            entries[state * SYMBOLS + symbol] = entry;
        }

        int aheadsOf(int state, int rule, int dot) {
            return items[state * CORES + coreOf(rule, dot)];
        }

        boolean holds(int state, int rule, int dot, int ahead) {
            return (aheadsOf(state, rule, dot) & bitOf(ahead)) != 0;
        }

        void flip(int state, int rule, int dot, int ahead) {
            items[state * CORES + coreOf(rule, dot)] ^= bitOf(ahead);
        }

        boolean isSame(int state, int[] set) {
            for (int i = 0; i < CORES; i++) {
                if (items[state * CORES + i] != set[i]) {
                    return false;
                }
            }
            return true;
        }

        /** The state with just this set: one that is there, or a new one; -1 if there is no room. */
        int findOrAdd(int[] set) {
            for (int state = 0; state < count; state++) {
                if (isSame(state, set)) {
                    return state;
                }
            }
            if (count >= MOST_STATES) {
                return -1;
            }
            System.arraycopy(set, 0, items, count * CORES, CORES);
            for (int symbol = 0; symbol < SYMBOLS; symbol++) {
                putEntry(count, symbol, NONE);
            }
            count++;
            return count - 1;
        }
    }

    /** Makes the canonical automaton. */
    private static final class Builder {
        // Every round but the last gives an item with dot 0 to a set.
        private static final int CLOSING_ROUNDS = MOST_RULES * (SYMBOLS - FIRST_TERMINAL) + 1;

        final Grammar grammar;
        final Automaton automaton;
        final int[] draft = new int[CORES];

        Builder(Grammar grammar, Automaton automaton) {
            this.grammar = grammar;
            this.automaton = automaton;
        }

        /** Whether there is one; if not, what it leaves of the automaton is of no use. */
        boolean makeCanonical() {
            grammar.learn();
            Arrays.fill(draft, 0);
            draft[coreOf(grammar.top(), 0)] = bitOf(END);
            close();
            automaton.findOrAdd(draft);
            for (int state = 0; state < MOST_STATES && state < automaton.count; state++) {
                if (!makeGoes(state) || !makeEnds(state)) {
                    return false;
                }
            }
            return true;
        }

        boolean makeGoes(int state) {
            for (int symbol = 0; symbol < END; symbol++) {
                if (moveOver(state, symbol)) {
                    close();
                    int target = automaton.findOrAdd(draft);
                    if (target < 0) {
                        return false;
                    }
                    automaton.putEntry(state, symbol, target);
                }
            }
            return true;
        }

        /** The draft becomes the state's items with that next, their dots one farther: whether there are some. */
        boolean moveOver(int state, int symbol) {
            boolean any = false;
            Arrays.fill(draft, 0);
            for (int rule = 0; rule <= grammar.top(); rule++) {
                for (int dot = 0; dot < grammar.lengths[rule]; dot++) {
                    int aheads = automaton.aheadsOf(state, rule, dot);
                    if (aheads != 0 && grammar.symbolAt(rule, dot) == symbol) {
                        draft[coreOf(rule, dot + 1)] = aheads;
                        any = true;
                    }
                }
            }
            return any;
        }

        void close() {
            boolean grown = true;
            for (int round = 0; round < CLOSING_ROUNDS && grown; round++) {
                grown = closeOnce();
            }
        }

        boolean closeOnce() {
            boolean grown = false;
            for (int rule = 0; rule <= grammar.top(); rule++) {
                for (int dot = 0; dot < grammar.lengths[rule]; dot++) {
                    int aheads = draft[coreOf(rule, dot)];
                    int next = grammar.symbolAt(rule, dot);
                    if (aheads != 0 && isNonterminal(next)) {
                        grown |= addRulesOf(next, grammar.firstOf(rule, dot + 1, aheads));
                    }
                }
            }
            return grown;
        }

        boolean addRulesOf(int nonterminal, int aheads) {
            boolean grown = false;
            for (int rule = 0; rule < grammar.count; rule++) {
                int core = coreOf(rule, 0);
                if (grammar.makes[rule] == nonterminal && (aheads & ~draft[core]) != 0) {
                    draft[core] |= aheads;
                    grown = true;
                }
            }
            return grown;
        }

        /** The entries for the items without a next: whether they are at odds with no other entry. */
        boolean makeEnds(int state) {
            for (int rule = 0; rule <= grammar.top(); rule++) {
                int aheads = automaton.aheadsOf(state, rule, grammar.lengths[rule]);
                for (int ahead = FIRST_TERMINAL; ahead <= END; ahead++) {
                    if ((aheads & bitOf(ahead)) != 0) {
                        if (automaton.entryAt(state, ahead) != NONE) {
                            return false;
                        }
                        automaton.putEntry(state, ahead, grammar.top() == rule ? ACCEPT : REDUCE + rule);
                    }
                }
            }
            return true;
        }
    }

    /** Looks for the first fault, and keeps where it was. */
    private static final class Checker {
        private static final int WHERE_FIELDS = 4;

        final Grammar grammar;
        final Automaton automaton;
        final int[] where = new int[WHERE_FIELDS];

        Checker(Grammar grammar, Automaton automaton) {
            this.grammar = grammar;
            this.automaton = automaton;
            Arrays.fill(where, -1);
        }

        void forget() {
            keep(-1, -1, -1, -1);
        }

        void keep(int state, int ruleOrSymbol, int dot, int ahead) {
            where[0] = state;
            where[1] = ruleOrSymbol;
            where[2] = dot;
            where[3] = ahead;
        }

        int whereabouts(int what) {
            return what < 0 || what >= WHERE_FIELDS ? -1 : where[what];
        }

        int look() {
            forget();
            if (findsItem(UNFOUNDED)) {
                return UNFOUNDED;
            }
            if (findsSymbol(FOREIGN)) {
                return FOREIGN;
            }
            if (findsSymbol(BOLD)) {
                return BOLD;
            }
            if (findsItem(HOMELESS)) {
                return HOMELESS;
            }
            if (!automaton.holds(0, grammar.top(), 0, END)) {
                keep(0, -1, -1, -1);
                return ROOTLESS;
            }
            for (int kind = OPEN; kind <= SHY; kind++) {
                if (findsItem(kind)) {
                    return kind;
                }
            }
            return GOOD;
        }

        boolean findsSymbol(int kind) {
            for (int state = 0; state < automaton.count; state++) {
                for (int symbol = 0; symbol < SYMBOLS; symbol++) {
                    if (kind == FOREIGN ? isForeign(state, symbol) : isBold(state, symbol)) {
                        keep(state, symbol, -1, -1);
                        return true;
                    }
                }
            }
            return false;
        }

        boolean findsItem(int kind) {
            for (int state = 0; state < automaton.count; state++) {
                for (int rule = 0; rule <= grammar.top(); rule++) {
                    for (int dot = 0; dot <= grammar.lengths[rule]; dot++) {
                        int aheads = automaton.aheadsOf(state, rule, dot);
                        for (int ahead = FIRST_TERMINAL; ahead <= END && aheads != 0; ahead++) {
                            if ((aheads & bitOf(ahead)) != 0 && isWrong(kind, state, rule, dot, ahead)) {
                                keep(state, rule, dot, ahead);
                                return true;
                            }
                        }
                    }
                }
            }
            return false;
        }

        boolean isWrong(int kind, int state, int rule, int dot, int ahead) {
            boolean atEnd = dot == grammar.lengths[rule];
            switch (kind) {
                case UNFOUNDED:
                    return state == 0 ? dot > 0 : rule == grammar.top() && dot == 0;
                case HOMELESS:
                    return rule != grammar.top() && dot == 0 && !isGo(automaton.entryAt(state, grammar.makes[rule]));
                case OPEN:
                    return !atEnd && isOpen(state, rule, dot, ahead);
                case LAZY:
                    return !atEnd && isLazy(state, rule, dot, ahead);
                default:
                    return atEnd && isShy(state, rule, ahead);
            }
        }

        boolean isForeign(int state, int symbol) {
            int target = automaton.entryAt(state, symbol);
            if (!isGo(target)) {
                return false;
            }
            for (int rule = 0; rule <= grammar.top(); rule++) {
                for (int dot = 1; dot <= grammar.lengths[rule]; dot++) {
                    int there = automaton.aheadsOf(target, rule, dot);
                    int here = grammar.symbolAt(rule, dot - 1) == symbol ? automaton.aheadsOf(state, rule, dot - 1) : 0;
                    if ((there & ~here) != 0) {
                        return true;
                    }
                }
            }
            return false;
        }

        boolean isBold(int state, int symbol) {
            int entry = automaton.entryAt(state, symbol);
            if (entry == NONE) {
                return false;
            }
            if (isGo(entry)) {
                return entry == 0 || symbol == END;
            }
            if (isNonterminal(symbol)) {
                return true;
            }
            if (entry == ACCEPT) {
                return symbol != END || !automaton.holds(state, grammar.top(), 1, END);
            }
            int rule = entry - REDUCE;
            return !automaton.holds(state, rule, grammar.lengths[rule], symbol);
        }

        boolean isOpen(int state, int rule, int dot, int ahead) {
            int next = grammar.symbolAt(rule, dot);
            if (!isNonterminal(next)) {
                return false;
            }
            int asked = grammar.firstOf(rule, dot + 1, bitOf(ahead));
            for (int other = 0; other < grammar.count; other++) {
                if (grammar.makes[other] == next && (asked & ~automaton.aheadsOf(state, other, 0)) != 0) {
                    return true;
                }
            }
            return false;
        }

        boolean isLazy(int state, int rule, int dot, int ahead) {
            int target = automaton.entryAt(state, grammar.symbolAt(rule, dot));
            return !isGo(target) || !automaton.holds(target, rule, dot + 1, ahead);
        }

        boolean isShy(int state, int rule, int ahead) {
            int due = rule == grammar.top() ? ACCEPT : REDUCE + rule;
            return automaton.entryAt(state, ahead) != due;
        }
    }

    /** The input and the latest parse of it; there is no parse while the stack's height is 0. */
    private static final class Parser {
        static final int NODE_FIELDS = 5;
        private static final int SYMBOL = 0;
        private static final int RULE = 1;
        private static final int PARENT = 2;
        private static final int BEGIN = 3;
        private static final int WIDTH = 4;

        final Grammar grammar;
        final Automaton automaton;
        final int[] input = new int[MOST_INPUT];
        int inputLength;
        int position;
        final int[] stackStates = new int[MOST_NODES + 1];
        final int[] stackNodes = new int[MOST_NODES + 1];
        int height;
        final int[] tree = new int[MOST_NODES * NODE_FIELDS];
        int nodeCount;

        Parser(Grammar grammar, Automaton automaton) {
            this.grammar = grammar;
            this.automaton = automaton;
        }

        int append(int terminal) {
            input[inputLength] = terminal;
            inputLength++;
            return inputLength;
        }

        void forget() {
            height = 0;
            nodeCount = 0;
        }

        int nodeField(int node, int what) {
            return tree[node * NODE_FIELDS + what];
        }

        int run(int steps) {
            position = 0;
            nodeCount = 0;
            height = 1;
            stackStates[0] = 0;
            int outcome = UNDECIDED;
            for (int step = 0; step < steps && outcome == UNDECIDED; step++) {
                outcome = takeStep();
            }
            return outcome;
        }

        int takeStep() {
            int symbol = position < inputLength ? input[position] : END;
            int entry = automaton.entryAt(stackStates[height - 1], symbol);
            if (entry == NONE) {
                return REJECTED;
            }
            if (isGo(entry)) {
                return shift(symbol, entry);
            }
            if (entry == ACCEPT) {
                return isStartAlone() ? ACCEPTED : INTERNAL;
            }
            return reduce(entry - REDUCE);
        }

        int shift(int symbol, int state) {
            if (symbol == END) {
                return INTERNAL;
            }
            if (nodeCount >= MOST_NODES) {
                return NO_ROOM;
            }
            push(addNode(symbol, -1, position, 1), state);
            position++;
            return UNDECIDED;
        }

        int reduce(int rule) {
            if (rule == grammar.top() || !isRowOnStack(rule)) {
                return INTERNAL;
            }
            if (nodeCount >= MOST_NODES) {
                return NO_ROOM;
            }
            int symbol = grammar.makes[rule];
            int node = addParent(symbol, rule);
            height -= grammar.lengths[rule];
            int target = automaton.entryAt(stackStates[height - 1], symbol);
            if (!isGo(target)) {
                return INTERNAL;
            }
            push(node, target);
            return UNDECIDED;
        }

        boolean isRowOnStack(int rule) {
            int length = grammar.lengths[rule];
            int bottom = height - length;
            if (bottom < 1) {
                return false;
            }
            for (int i = 0; i < length; i++) {
                if (nodeField(stackNodes[bottom + i], SYMBOL) != grammar.symbolAt(rule, i)) {
                    return false;
                }
            }
            return true;
        }

        /** What is on the stack reaches to the position without a gap, so the widths tell the beginning. */
        int addParent(int symbol, int rule) {
            int bottom = height - grammar.lengths[rule];
            int width = 0;
            for (int i = bottom; i < height; i++) {
                tree[stackNodes[i] * NODE_FIELDS + PARENT] = nodeCount;
                width += nodeField(stackNodes[i], WIDTH);
            }
            return addNode(symbol, rule, position - width, width);
        }

        int addNode(int symbol, int rule, int begin, int width) {
            int base = nodeCount * NODE_FIELDS;
            tree[base + SYMBOL] = symbol;
            tree[base + RULE] = rule;
            tree[base + PARENT] = -1;
            tree[base + BEGIN] = begin;
            tree[base + WIDTH] = width;
            nodeCount++;
            return nodeCount - 1;
        }

        void push(int node, int state) {
            stackNodes[height] = node;
            stackStates[height] = state;
            height++;
        }

        boolean isStartAlone() {
            return height == 2 && nodeField(stackNodes[1], SYMBOL) == grammar.start();
        }
    }
}
