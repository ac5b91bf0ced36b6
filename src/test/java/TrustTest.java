import java.util.HashMap;
import java.util.HashSet;
import java.util.Map;
import java.util.Random;
import java.util.Set;

/**
 * What the document begins with: an automaton that is found good accepts just the grammar's
 * language, with trees, and never comes to an internal error; a canonical one is found good.
 * Objects are used for more than 512 calls here, which the document leaves free: the class counts
 * no calls, and so many inputs would else want as many objects.
 */
public final class TrustTest {
    private static final int LONGEST = 4;
    private static final int GRAMMARS = 1500;
    private static final int CHANGES = 40;

    private static int wrong;
    private static int canonical;
    private static int changedAndGood;

    private TrustTest() {
    }

    public static void main(String[] arguments) {
        Random random = new Random(17);
        for (String grammar : Grammars.SOUND) {
            look(grammar, random);
        }
        for (int i = 0; i < GRAMMARS; i++) {
            look(Grammars.random(random), random);
        }
        System.out.println(canonical + " canonical automata, " + changedAndGood + " changed ones that are good, " + wrong + " faults");
        System.exit(wrong == 0 && canonical > 300 && changedAndGood > 30 ? 0 : 1);
    }

    private static void report(String grammar, String text) {
        wrong++;
        System.out.println(grammar + ": " + text);
    }

    private static ParserProof start(String grammar) {
        ParserProof proof = new ParserProof();
        for (String rule : Grammars.rules(grammar)) {
            proof.rule(Grammars.coded(rule));
        }
        try {
            proof.build();
        } catch (UnsupportedOperationException noSuchAutomaton) {
            return null;
        }
        return proof;
    }

    private static void look(String grammar, Random random) {
        ParserProof proof = start(grammar);
        if (proof == null) {
            return;
        }
        canonical++;
        if (proof.check() != 0) {
            report(grammar, "its canonical automaton is not good");
        }
        Set<String> language = language(grammar);
        compare(grammar, proof, language);
        for (int i = 0; i < CHANGES; i++) {
            widen(grammar, start(grammar), random, language);
        }
    }

    /**
     * An item more in some state, with all that the faults then ask for: most end in a fault that
     * cannot be mended so, but some in another good automaton.
     */
    private static void widen(String grammar, ParserProof proof, Random random, Set<String> language) {
        String[] rules = Grammars.rules(grammar);
        int rule = random.nextInt(rules.length);
        int state = random.nextInt(proof.states());
        proof.turn(state, rule, random.nextInt(rules[rule].length() - 1), 4 + random.nextInt(6));
        for (int i = 0; i < 60; i++) {
            int kind = proof.check();
            if (kind == 0) {
                changedAndGood++;
                compare(grammar + ", changed", proof, language);
                return;
            }
            if (!mend(rules, proof, kind)) {
                return;
            }
        }
    }

    private static boolean mend(String[] rules, ParserProof proof, int kind) {
        int state = proof.fault(0);
        int rule = proof.fault(1);
        int dot = proof.fault(2);
        int ahead = proof.fault(3);
        switch (kind) {
            case 3:
                proof.set(state, rule, -1);
                return true;
            case 6:
                return close(rules, proof, Grammars.symbol(next(rules, rule, dot)), state);
            case 7:
                int target = proof.entry(state, Grammars.symbol(next(rules, rule, dot)));
                if (target < 1 || target > 49) {
                    return false;
                }
                proof.turn(target, rule, dot + 1, ahead);
                return true;
            case 8:
                if (rule == rules.length || proof.entry(state, ahead) != -1) {
                    return false;
                }
                proof.set(state, ahead, 100 + rule);
                return true;
            default:
                return false;
        }
    }

    private static char next(String[] rules, int rule, int dot) {
        return rule == rules.length ? rules[0].charAt(0) : rules[rule].charAt(2 + dot);
    }

    /** All items of the nonterminal's rules, more than are asked for perhaps. */
    private static boolean close(String[] rules, ParserProof proof, int nonterminal, int state) {
        for (int rule = 0; rule < rules.length; rule++) {
            for (int ahead = 4; ahead < 10 && Grammars.symbol(rules[rule].charAt(0)) == nonterminal; ahead++) {
                if (!proof.has(state, rule, 0, ahead)) {
                    proof.turn(state, rule, 0, ahead);
                }
            }
        }
        return true;
    }

    private static void compare(String grammar, ParserProof proof, Set<String> language) {
        compareFrom("", grammar, proof, language);
    }

    private static void compareFrom(String input, String grammar, ParserProof proof, Set<String> language) {
        proof.empty();
        for (int i = 0; i < input.length(); i++) {
            proof.feed(Grammars.symbol(input.charAt(i)));
        }
        int outcome = proof.parse(400);
        int due = language.contains(input) ? 1 : 2;
        if (outcome != due && outcome != 4) {
            report(grammar, "the outcome for '" + input + "' is " + outcome + ", not " + due);
        }
        if (outcome == 1) {
            checkTree(grammar, proof, input);
        }
        for (char terminal = 'a'; terminal <= 'e' && input.length() < LONGEST; terminal++) {
            if (grammar.indexOf(terminal) >= 0 || input.isEmpty()) {
                compareFrom(input + terminal, grammar, proof, language);
            }
        }
    }

    /** The root is the last node, it is made of all the input, and each node's children are its rule's row. */
    private static void checkTree(String grammar, ParserProof proof, String input) {
        String[] rules = Grammars.rules(grammar.replace(", changed", ""));
        int root = proof.nodes() - 1;
        for (int i = 0; i <= root; i++) {
            StringBuilder row = new StringBuilder();
            int place = proof.node(i, 3);
            for (int child = 0; child < i; child++) {
                if (proof.node(child, 2) == i) {
                    row.append(Grammars.SYMBOLS.charAt(proof.node(child, 0)));
                    if (proof.node(child, 3) != place) {
                        report(grammar, "node " + child + " of '" + input + "' does not begin where the one before it ends");
                    }
                    place += proof.node(child, 4);
                }
            }
            int rule = proof.node(i, 1);
            char symbol = Grammars.SYMBOLS.charAt(proof.node(i, 0));
            boolean leaf = rule < 0 && row.length() == 0 && input.charAt(proof.node(i, 3)) == symbol && proof.node(i, 4) == 1;
            boolean inner = rule >= 0 && rules[rule].equals(symbol + "=" + row) && place == proof.node(i, 3) + proof.node(i, 4);
            boolean hasParent = proof.node(i, 2) > i;
            if (!leaf && !inner || hasParent != (i != root)) {
                report(grammar, "node " + i + " of '" + input + "' is none of a tree");
            }
        }
        if (proof.depth() != 2 || proof.node(root, 3) != 0 || proof.node(root, 4) != input.length()
            || Grammars.SYMBOLS.charAt(proof.node(root, 0)) != rules[0].charAt(0)) {
            report(grammar, "the root of '" + input + "' is not made of all of it");
        }
    }

    /** All short strings of the start, by making what each rule makes of what is known until nothing is new. */
    private static Set<String> language(String grammar) {
        Map<Character, Set<String>> made = new HashMap<>();
        for (char symbol : Grammars.SYMBOLS.toCharArray()) {
            made.put(symbol, new HashSet<>());
            if (symbol >= 'a') {
                made.get(symbol).add(String.valueOf(symbol));
            }
        }
        boolean grown = true;
        while (grown) {
            grown = false;
            for (String rule : Grammars.rules(grammar)) {
                grown |= made.get(rule.charAt(0)).addAll(strings(rule.substring(2), made));
            }
        }
        return made.get(grammar.charAt(0));
    }

    private static Set<String> strings(String row, Map<Character, Set<String>> made) {
        Set<String> strings = new HashSet<>(Set.of(""));
        for (char symbol : row.toCharArray()) {
            Set<String> longer = new HashSet<>();
            for (String string : strings) {
                for (String tail : made.get(symbol)) {
                    if (string.length() + tail.length() <= LONGEST) {
                        longer.add(string + tail);
                    }
                }
            }
            strings = longer;
        }
        return strings;
    }
}
