import java.util.ArrayList;
import java.util.HashSet;
import java.util.List;
import java.util.Set;
import java.util.TreeSet;

/**
 * The document once more, as slowly and as near to its words as can be: sets of single items,
 * trees of objects. It shares no code and no way of holding things with ParserProof.
 */
final class Oracle {
    record Rule(int makes, List<Integer> row) {
    }

    record Item(int rule, int dot, int ahead) implements Comparable<Item> {
        @Override
        public int compareTo(Item other) {
            int byRule = Integer.compare(rule, other.rule);
            int byDot = byRule != 0 ? byRule : Integer.compare(dot, other.dot);
            return byDot != 0 ? byDot : Integer.compare(ahead, other.ahead);
        }

        Item farther() {
            return new Item(rule, dot + 1, ahead);
        }
    }

    static final class Node {
        int symbol;
        int rule = -1;
        int begin;
        Node parent;
        final List<Node> children = new ArrayList<>();

        int terminals() {
            if (rule < 0) {
                return 1;
            }
            int sum = 0;
            for (Node child : children) {
                sum += child.terminals();
            }
            return sum;
        }
    }

    private final List<Rule> rules = new ArrayList<>();
    private List<TreeSet<Item>> sets = new ArrayList<>();
    private List<int[]> entries = new ArrayList<>();
    private final List<Integer> input = new ArrayList<>();
    private boolean parsed;
    private final List<Node> made = new ArrayList<>();
    private final List<Integer> stack = new ArrayList<>();
    private final List<Node> stackNodes = new ArrayList<>();
    private int read;
    private int[] found;
    private final int mostStates;

    Oracle() {
        this(50);
    }

    Oracle(int mostStates) {
        this.mostStates = mostStates;
    }

    int rule(int coded) {
        int length = coded >> 2 & 7;
        if (length > 4) {
            throw new IllegalArgumentException();
        }
        List<Integer> row = new ArrayList<>();
        for (int i = 0; i < length; i++) {
            int symbol = coded >> 5 + 4 * i & 15;
            if (symbol > 8) {
                throw new IllegalArgumentException();
            }
            row.add(symbol);
        }
        if (rules.size() == 8) {
            throw new IllegalStateException();
        }
        noAutomaton();
        rules.add(new Rule(coded & 3, row));
        return rules.size() - 1;
    }

    void clear() {
        rules.clear();
        noAutomaton();
    }

    private void noAutomaton() {
        sets = new ArrayList<>();
        entries = new ArrayList<>();
        found = null;
        noParse();
    }

    private void noParse() {
        parsed = false;
        made.clear();
        stack.clear();
        stackNodes.clear();
    }

    private int top() {
        return rules.size();
    }

    private List<Integer> row(int rule) {
        return rule == top() ? List.of(rules.get(0).makes()) : rules.get(rule).row();
    }

    /** The next of an item, or -1. */
    private int next(Item item) {
        List<Integer> row = row(item.rule());
        return item.dot() < row.size() ? row.get(item.dot()) : -1;
    }

    private boolean nullable(List<Integer> row, Set<Integer> open) {
        for (int symbol : row) {
            if (symbol > 3 || !nullableSymbol(symbol, open)) {
                return false;
            }
        }
        return true;
    }

    private boolean nullableSymbol(int nonterminal, Set<Integer> open) {
        if (open.contains(nonterminal)) {
            return false;
        }
        Set<Integer> deeper = new HashSet<>(open);
        deeper.add(nonterminal);
        for (Rule rule : rules) {
            if (rule.makes() == nonterminal && nullable(rule.row(), deeper)) {
                return true;
            }
        }
        return false;
    }

    /** All symbols with which forms that a row makes can begin, its own first ones among them. */
    private void beginnings(List<Integer> row, Set<Integer> seen) {
        for (int symbol : row) {
            if (seen.add(symbol) && symbol < 4) {
                for (Rule rule : rules) {
                    if (rule.makes() == symbol) {
                        beginnings(rule.row(), seen);
                    }
                }
            }
            if (symbol > 3 || !nullableSymbol(symbol, Set.of())) {
                return;
            }
        }
    }

    private Set<Integer> first(List<Integer> row, int ahead) {
        Set<Integer> seen = new TreeSet<>();
        beginnings(row, seen);
        seen.removeIf(symbol -> symbol < 4);
        if (nullable(row, Set.of())) {
            seen.add(ahead);
        }
        return seen;
    }

    private Set<Item> asked(Item item) {
        Set<Item> asked = new TreeSet<>();
        int next = next(item);
        if (next >= 0 && next < 4) {
            List<Integer> row = row(item.rule());
            for (int ahead : first(row.subList(item.dot() + 1, row.size()), item.ahead())) {
                for (int rule = 0; rule < rules.size(); rule++) {
                    if (rules.get(rule).makes() == next) {
                        asked.add(new Item(rule, 0, ahead));
                    }
                }
            }
        }
        return asked;
    }

    private TreeSet<Item> closed(Set<Item> items) {
        TreeSet<Item> closed = new TreeSet<>();
        List<Item> waiting = new ArrayList<>(items);
        while (!waiting.isEmpty()) {
            Item item = waiting.remove(waiting.size() - 1);
            if (closed.add(item)) {
                waiting.addAll(asked(item));
            }
        }
        return closed;
    }

    int build() {
        if (rules.isEmpty()) {
            throw new IllegalStateException();
        }
        noAutomaton();
        if (!canonical()) {
            noAutomaton();
            throw new UnsupportedOperationException();
        }
        return sets.size();
    }

    private boolean canonical() {
        sets.add(closed(Set.of(new Item(top(), 0, 9))));
        for (int state = 0; state < sets.size(); state++) {
            int[] row = {-1, -1, -1, -1, -1, -1, -1, -1, -1, -1};
            entries.add(row);
            for (int symbol = 0; symbol < 9; symbol++) {
                Set<Item> moved = new TreeSet<>();
                for (Item item : sets.get(state)) {
                    if (next(item) == symbol) {
                        moved.add(item.farther());
                    }
                }
                if (!moved.isEmpty()) {
                    TreeSet<Item> target = closed(moved);
                    if (!sets.contains(target)) {
                        sets.add(target);
                    }
                    row[symbol] = sets.indexOf(target);
                }
            }
            for (Item item : sets.get(state)) {
                if (next(item) < 0) {
                    int due = item.rule() == top() ? 200 : 100 + item.rule();
                    if (row[item.ahead()] != -1 && row[item.ahead()] != due) {
                        return false;
                    }
                    row[item.ahead()] = due;
                }
            }
            if (sets.size() > mostStates) {
                return false;
            }
        }
        return true;
    }

    int states() {
        return sets.size();
    }

    private void needPlace(int state, int symbol) {
        if (state < 0 || state >= sets.size() || symbol < 0 || symbol > 9) {
            throw new IndexOutOfBoundsException();
        }
    }

    int entry(int state, int symbol) {
        needPlace(state, symbol);
        return entries.get(state)[symbol];
    }

    void set(int state, int symbol, int entry) {
        needPlace(state, symbol);
        boolean reduces = entry >= 100 && entry <= 100 + top();
        if (entry != -1 && entry != 200 && !reduces && (entry < 0 || entry >= sets.size())) {
            throw new IllegalArgumentException();
        }
        entries.get(state)[symbol] = entry;
        noParse();
    }

    private Item item(int state, int rule, int dot, int ahead) {
        if (state < 0 || state >= sets.size()) {
            throw new IndexOutOfBoundsException();
        }
        if (rule < 0 || rule > top() || dot < 0 || dot > row(rule).size() || ahead < 4 || ahead > 9) {
            throw new IllegalArgumentException();
        }
        return new Item(rule, dot, ahead);
    }

    boolean has(int state, int rule, int dot, int ahead) {
        Item item = item(state, rule, dot, ahead);
        return sets.get(state).contains(item);
    }

    boolean turn(int state, int rule, int dot, int ahead) {
        Item item = item(state, rule, dot, ahead);
        if (!sets.get(state).remove(item)) {
            sets.get(state).add(item);
            return true;
        }
        return false;
    }

    int check() {
        if (sets.isEmpty()) {
            throw new IllegalStateException();
        }
        for (int kind = 1; kind <= 8; kind++) {
            found = kind == 2 || kind == 3 ? wrongSymbol(kind) : wrongItem(kind);
            if (found != null) {
                return kind;
            }
        }
        return 0;
    }

    private int[] wrongSymbol(int kind) {
        for (int state = 0; state < sets.size(); state++) {
            for (int symbol = 0; symbol < 10; symbol++) {
                if (kind == 2 ? foreign(state, symbol) : bold(state, symbol)) {
                    return new int[] {state, symbol, -1, -1};
                }
            }
        }
        return null;
    }

    private int[] wrongItem(int kind) {
        if (kind == 5) {
            return sets.get(0).contains(new Item(top(), 0, 9)) ? null : new int[] {0, -1, -1, -1};
        }
        for (int state = 0; state < sets.size(); state++) {
            for (Item item : sets.get(state)) {
                if (wrong(kind, state, item)) {
                    return new int[] {state, item.rule(), item.dot(), item.ahead()};
                }
            }
        }
        return null;
    }

    private boolean goes(int entry) {
        return entry >= 0 && entry < 100;
    }

    private boolean foreign(int state, int symbol) {
        int entry = entries.get(state)[symbol];
        if (!goes(entry)) {
            return false;
        }
        for (Item item : sets.get(entry)) {
            if (item.dot() > 0) {
                Item before = new Item(item.rule(), item.dot() - 1, item.ahead());
                if (row(item.rule()).get(item.dot() - 1) != symbol || !sets.get(state).contains(before)) {
                    return true;
                }
            }
        }
        return false;
    }

    private boolean bold(int state, int symbol) {
        int entry = entries.get(state)[symbol];
        if (symbol < 4) {
            return entry == 0 || entry >= 100;
        }
        if (entry == 200) {
            return symbol != 9 || !sets.get(state).contains(new Item(top(), 1, symbol));
        }
        if (entry >= 100) {
            return !sets.get(state).contains(new Item(entry - 100, row(entry - 100).size(), symbol));
        }
        return entry == 0 || entry > 0 && symbol == 9;
    }

    private boolean wrong(int kind, int state, Item item) {
        int next = next(item);
        int entry = entries.get(state)[next < 0 ? item.ahead() : next];
        switch (kind) {
            case 1:
                return state == 0 && item.dot() > 0 || state > 0 && item.rule() == top() && item.dot() == 0;
            case 4:
                return item.rule() != top() && item.dot() == 0 && !goes(entries.get(state)[rules.get(item.rule()).makes()]);
            case 6:
                return !sets.get(state).containsAll(asked(item));
            case 7:
                return next >= 0 && !(goes(entry) && sets.get(entry).contains(item.farther()));
            default:
                return next < 0 && entry != (item.rule() == top() ? 200 : 100 + item.rule());
        }
    }

    int fault(int what) {
        return found == null || what < 0 || what > 3 ? -1 : found[what];
    }

    int feed(int terminal) {
        if (terminal < 4 || terminal > 8 || input.size() == 20) {
            return -1;
        }
        input.add(terminal);
        noParse();
        return input.size();
    }

    void empty() {
        input.clear();
        noParse();
    }

    int parse(int steps) {
        if (sets.isEmpty()) {
            throw new IllegalStateException();
        }
        if (steps < 0 || steps > 400) {
            throw new IllegalArgumentException();
        }
        noParse();
        parsed = true;
        stack.add(0);
        read = 0;
        for (int i = 0; i < steps; i++) {
            int outcome = step();
            if (outcome != 0) {
                return outcome;
            }
        }
        return 0;
    }

    private int step() {
        int symbol = read < input.size() ? input.get(read) : 9;
        int entry = entries.get(stack.get(stack.size() - 1))[symbol];
        if (entry == -1) {
            return 2;
        }
        if (entry == 200) {
            return stackNodes.size() == 1 && stackNodes.get(0).symbol == rules.get(0).makes() ? 1 : 3;
        }
        if (entry >= 100) {
            return entry - 100 == top() ? 3 : reduce(entry - 100);
        }
        if (symbol == 9) {
            return 3;
        }
        if (made.size() == 60) {
            return 4;
        }
        Node node = node(symbol);
        stackNodes.add(node);
        stack.add(entry);
        read++;
        return 0;
    }

    private Node node(int symbol) {
        Node node = new Node();
        node.symbol = symbol;
        node.begin = read;
        made.add(node);
        return node;
    }

    private int reduce(int rule) {
        List<Integer> row = row(rule);
        List<Integer> there = new ArrayList<>();
        int bottom = stackNodes.size() - row.size();
        if (bottom < 0) {
            return 3;
        }
        List<Node> children = new ArrayList<>(stackNodes.subList(bottom, stackNodes.size()));
        for (Node child : children) {
            there.add(child.symbol);
        }
        if (!there.equals(row)) {
            return 3;
        }
        if (made.size() == 60) {
            return 4;
        }
        Node node = node(rules.get(rule).makes());
        node.rule = rule;
        for (Node child : children) {
            child.parent = node;
            node.children.add(child);
            stackNodes.remove(stackNodes.size() - 1);
            stack.remove(stack.size() - 1);
        }
        node.begin = children.isEmpty() ? read : children.get(0).begin;
        int target = entries.get(stack.get(stack.size() - 1))[node.symbol];
        if (!goes(target)) {
            return 3;
        }
        stackNodes.add(node);
        stack.add(target);
        return 0;
    }

    int nodes() {
        return made.size();
    }

    int node(int i, int what) {
        if (i < 0 || i >= made.size()) {
            throw new IndexOutOfBoundsException();
        }
        Node node = made.get(i);
        switch (what) {
            case 0:
                return node.symbol;
            case 1:
                return node.rule;
            case 2:
                return made.indexOf(node.parent);
            case 3:
                return node.begin;
            case 4:
                return node.terminals();
            default:
                throw new IllegalArgumentException();
        }
    }

    int depth() {
        return parsed ? stack.size() : 0;
    }
}
