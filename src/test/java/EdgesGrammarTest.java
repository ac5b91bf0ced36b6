/** The edges that "Terms" names for grammars and automata, and promises 1 to 5: each sentence by runs of its own. */
public final class EdgesGrammarTest {
    private static final Runs RUNS = new Runs();

    private static final int MOST_LENGTH = 4;
    private static final String EIGHT = "rule A=a : 0; rule B= : 1; rule B= : 2; rule B= : 3; rule B= : 4; rule B= : 5; rule B= : 6; rule B= : 7";

    private EdgesGrammarTest() {
    }

    private static void run(String title, String... script) {
        RUNS.run(title, script);
    }

    public static void main(String[] arguments) {
        newObject();
        symbolsOfARow();
        lengthOfARow();
        behindTheRow();
        howManyRules();
        theTop();
        theStart();
        nullable();
        nothingOfAnEarlierGrammar();
        first();
        canonical();
        conflicts();
        howManyStates();
        whatBuildLeaves();
        clear();
        System.exit(RUNS.finish());
    }

    private static void newObject() {
        run("No rules", "build : State");
        run("No rules: the first is number 0", "rule D=eeee : 0");
        run("no automaton", "states : 0");
        run("no automaton: no entry", "entry 0 0 : Index");
        run("no automaton: none to set", "set 0 0 -1 : Index");
        run("no automaton: no item", "has 0 0 0 4 : Index");
        run("no automaton: none to turn", "turn 0 0 0 4 : Index");
        run("no automaton: none to check", "check : State");
        run("no automaton: none to parse by", "parse 0 : State");
        run("no check: no fault", "fault 0 : -1; fault 1 : -1; fault 2 : -1; fault 3 : -1");
        run("no input", "feed a : 1");
        run("no input: room for 20", Runs.input("abcdeabcdeabcdeabcde"));
        run("no input: what has no terminal is accepted", "rule A= : 0; build : 2; parse 400 : 1");
        run("no parse", "nodes : 0; depth : 0");
        run("no parse: no node", "node 0 0 : Index; node -1 0 : Index");
    }

    /** Each place of each row: 8 is the last symbol that is taken, 9 to 15 are not. */
    private static void symbolsOfARow() {
        for (int length = 1; length <= MOST_LENGTH; length++) {
            for (int place = 0; place < length; place++) {
                for (int symbol = 0; symbol < 16; symbol++) {
                    int coded = length << 2 | symbol << 5 + 4 * place;
                    String due = symbol <= 8 ? "0" : "Argument";
                    String next = symbol <= 8 ? "1" : "0";
                    run("a symbol not 0 .. 8", "rule " + coded + " : " + due + "; rule A=a : " + next);
                }
            }
        }
        run("0 .. 3 are nonterminals, 4 .. 8 terminals", "rule A=eDda : 0; rule D=b : 1; build : 7; entry 0 e : 2; entry 2 D : 3; entry 2 b : 4",
            "entry 3 d : 5; entry 5 a : 6; entry 6 $ : 100; entry 4 d : 101");
        run("lowest two bits the nonterminal: 0", "rule 0 : 0; build : 2; entry 0 A : 1; entry 0 D : -1");
        run("lowest two bits the nonterminal: 3", "rule 3 : 0; build : 2; entry 0 D : 1; entry 0 A : -1");
        run("each symbol has its own four bits", "rule " + (4 << 2 | 5 << 5 | 6 << 9 | 7 << 13 | 8 << 17) + " : 0; build : 6",
            Runs.input("bcde") + "; parse 400 : 1", Runs.input("edcb") + "; parse 400 : 2");
    }

    /** 4 is the last length that is taken. */
    private static void lengthOfARow() {
        for (int nonterminal = 0; nonterminal < 4; nonterminal++) {
            for (int length = 0; length < 8; length++) {
                String due = length <= MOST_LENGTH ? "0" : "Argument";
                String next = length <= MOST_LENGTH ? "1" : "0";
                run("the length is above 4", "rule " + (nonterminal | length << 2) + " : " + due + "; rule A=a : " + next);
                run("the length is above 4, terminals", "rule " + (nonterminal | length << 2 | 0x8888 << 5) + " : " + due + "; rule A=a : " + next);
            }
        }
        run("a row of none", "rule A= : 0; build : 2; has 0 0 0 $ : 1; has 0 0 1 $ : Argument; entry 0 $ : 100");
        run("a row of 4", "rule A=abcd : 0; build : 6; has 5 0 4 $ : 1; has 5 0 5 $ : Argument; entry 5 $ : 100");
        run("an unmade rule leaves no rule", "rule 20 : Argument; build : State; rule 28 : Argument; build : State");
    }

    /** The document says nothing of bits behind the row: none is a symbol of the row, so none is looked at. */
    private static void behindTheRow() {
        run("behind a row of none", "rule " + (15 << 5) + " : 0; build : 2; has 0 0 0 $ : 1; has 0 0 1 $ : Argument");
        run("behind a row of 1", "rule " + (1 << 2 | 4 << 5 | 15 << 9) + " : 0; build : 3; has 2 0 1 $ : 1; has 2 0 2 $ : Argument");
        run("behind a row of 3",
            "rule " + (3 << 2 | 4 << 5 | 5 << 9 | 6 << 13 | 9 << 17) + " : 0; build : 5; has 4 0 3 $ : 1; has 4 0 4 $ : Argument");
        run("behind a row of 4", "rule " + (Grammars.coded("A=abcd") | 1 << 21) + " : 0; build : 6; entry 5 $ : 100");
        run("behind a row of 4: the highest bit", "rule " + (Grammars.coded("A=abcd") | 1 << 31) + " : 0; build : 6; entry 5 $ : 100");
        run("behind a row of 4: all bits", "rule " + (Grammars.coded("A=abcd") | -1 << 21) + " : 0; build : 6; entry 5 $ : 100");
        run("the largest and the smallest number", "rule 2147483647 : Argument; rule -1 : Argument; rule -2147483648 : 0; build : 2; entry 0 A : 1");
    }

    private static void howManyRules() {
        run("at most 8: the 8th", EIGHT + "; build : 3; has 0 7 0 $ : 0; entry 0 a : 2");
        run("IllegalStateException if there are 8",
            EIGHT + "; rule B= : State; rule A=a : State; build : 3; has 0 8 0 $ : 1; has 0 9 0 $ : Argument");
        run("IllegalStateException if there are 8, and an automaton", EIGHT + "; build : 3; rule B= : State; states : 3; entry 0 a : 2; check : 0");
        run("IllegalStateException if there are 8, and a parse",
            EIGHT + "; build : 3; feed a : 1; parse 400 : 1; rule B= : State; nodes : 2; depth : 2; node 0 2 : 1; feed a : 2");
        run("the first one named: the length, with 8", EIGHT + "; rule 20 : Argument; rule B= : State; build : 3");
        run("the first one named: a symbol, with 8", EIGHT + "; rule 292 : Argument; rule B= : State; build : 3");
        run("with 7 there is no IllegalStateException", "rule A=a : 0; rule B= : 1; rule B= : 2; rule B= : 3; rule B= : 4; rule B= : 5; rule B= : 6",
            "rule 20 : Argument; rule B= : 7; rule B= : State");
        run("room again behind clear()", EIGHT + "; rule B= : State; clear : ok; " + EIGHT + "; rule B= : State; build : 3");
        run("a rule more: no automaton",
            "rule A=a : 0; build : 3; rule A=b : 1; states : 0; entry 0 0 : Index; set 0 0 -1 : Index; has 0 0 0 $ : Index",
            "turn 0 0 0 $ : Index; check : State; parse 0 : State; build : 4");
        run("a rule more: no parse", "rule A=a : 0; build : 3; parse 0 : 0; depth : 1; rule A=b : 1; depth : 0; nodes : 0");
        run("a rule more: no node", "rule A=a : 0; build : 3; feed a : 1; parse 1 : 0; nodes : 1; rule A=b : 1; nodes : 0; node 0 0 : Index");
        run("a rule more: the input stays", "rule A=a : 0; feed a : 1; rule A=b : 1; feed a : 2; empty : ok; feed b : 1; build : 4; parse 400 : 1");
    }

    private static void theTop() {
        run("the TOP's number is how many rules there are: 1", "rule A=a : 0; build : 3; has 0 1 0 $ : 1; has 1 1 1 $ : 1; has 0 2 0 $ : Argument");
        run("the TOP's number is how many rules there are: 8", EIGHT + "; build : 3; has 0 8 0 $ : 1; has 1 8 1 $ : 1; has 0 9 0 $ : Argument");
        run("the TOP moves with a rule more", "rule A=a : 0; build : 3; has 0 1 0 $ : 1; rule A=b : 1; build : 4; has 0 1 0 $ : 1; has 0 1 1 $ : 0",
            "has 0 2 0 $ : 1; has 1 2 1 $ : 1; has 1 1 1 $ : 0");
        run("the TOP has dots 0 and 1",
            "rule A=abcd : 0; build : 6; has 0 1 0 $ : 1; has 0 1 1 $ : 0; has 0 1 2 $ : Argument; has 0 1 -1 $ : Argument",
            "has 0 1 4 $ : Argument; turn 0 1 2 $ : Argument; turn 0 1 -1 $ : Argument");
        run("the TOP makes the start, also behind a longer rule that was there", "rule A=a : 0; rule B=bcde : 1; clear : ok; rule C=a : 0; build : 3",
            "has 0 1 0 $ : 1; has 0 1 1 $ : 0; has 0 1 2 $ : Argument; entry 0 C : 1; has 1 1 1 $ : 1; check : 0");
        run("no other symbol than $ is ahead of the TOP",
            "rule A=Aa : 0; rule A=a : 1; build : 4; has 0 2 0 a : 0; has 0 2 0 e : 0; has 1 2 1 a : 0; has 1 2 1 $ : 1");
    }

    private static void theStart() {
        run("the start is the nonterminal of rule 0: A", "rule A=a : 0; rule D=b : 1; build : 3; entry 0 A : 1; entry 0 D : -1; entry 0 b : -1");
        run("the start is the nonterminal of rule 0: D", "rule D=b : 0; rule A=a : 1; build : 3; entry 0 D : 1; entry 0 A : -1; entry 0 a : -1");
        run("the start of a new grammar", "rule D=b : 0; clear : ok; rule A=a : 0; rule D=b : 1; build : 3; entry 0 A : 1; entry 0 D : -1");
        run("all rules of the start are its own",
            "rule A=a : 0; rule B=c : 1; rule A=b : 2; build : 4; entry 0 a : 2; entry 0 b : 3; entry 0 c : -1");
    }

    /** Looked at by what is ahead of the rule C=c in state 0, where C stands before the row in question. */
    private static void nullable() {
        run("a row is nullable if it is empty", "rule A=CBd : 0; rule C=c : 1; rule B= : 2; build : 6; has 0 1 0 d : 1; has 0 1 0 $ : 0");
        run("a row of a terminal is not", "rule A=CBd : 0; rule C=c : 1; rule B=b : 2; build : 7; has 0 1 0 d : 0; has 0 1 0 b : 1");
        run("a nonterminal without a rule is not",
            "rule A=CBd : 0; rule C=c : 1; build : 5; has 0 1 0 d : 0; has 0 1 0 $ : 0; entry 0 c : -1; entry 0 C : 2");
        run("a nonterminal of itself alone is not",
            "rule A=CB : 0; rule C=c : 1; rule B=BB : 2; build : 5; has 0 1 0 $ : 0; entry 0 c : -1; entry 3 B : 4; entry 4 B : 4");
        run("all of it nullable", "rule A=CBDd : 0; rule C=c : 1; rule B= : 2; rule D= : 3; build : 7; has 0 1 0 d : 1");
        run("the last of it is not nullable", "rule A=CB : 0; rule C=c : 1; rule B=Db : 2; rule D= : 3; build : 7; has 0 1 0 b : 1; has 0 1 0 $ : 0");
        run("the first of it is not nullable",
            "rule A=CB : 0; rule C=c : 1; rule B=bD : 2; rule D= : 3; build : 7; has 0 1 0 b : 1; has 0 1 0 $ : 0");
        run("a row of 4 nullable ones", "rule A=CB : 0; rule C=c : 1; rule B=DDDD : 2; rule D= : 3; build : 9; has 0 1 0 $ : 1");
        run("one rule of several is enough", "rule A=CBd : 0; rule C=c : 1; rule B=b : 2; rule B=e : 3; rule B= : 4; build : 8; has 0 1 0 b : 1",
            "has 0 1 0 e : 1; has 0 1 0 d : 1; has 0 1 0 $ : 0");
        run("by a nonterminal behind a nonterminal", "rule A=CBd : 0; rule C=c : 1; rule B=D : 2; rule D= : 3; build : 7; has 0 1 0 d : 1");
    }

    /** Of each nonterminal in turn: it was nullable and began with b in the grammar before. */
    private static void nothingOfAnEarlierGrammar() {
        for (int i = 0; i < 4; i++) {
            char row = "ABCD".charAt(i);
            char start = "ABCD".charAt((i + 1) % 4);
            char before = "ABCD".charAt((i + 2) % 4);
            String common = "rule " + start + "=" + before + row + "e : 0; rule " + before + "=c : 1; rule " + row + "=";
            run("nothing of an earlier grammar: " + row, common + " : 2; rule " + row + "=b : 3; build : 7; has 0 1 0 b : 1; has 0 1 0 e : 1; has 0 1 0 a : 0",
                "clear : ok; " + common + "a : 2; build : 7; has 0 1 0 a : 1; has 0 1 0 b : 0; has 0 1 0 e : 0; check : 0");
            run("nothing of an earlier grammar, if there is no rule: " + row, common + " : 2; rule " + row + "=b : 3; build : 7; clear : ok",
                "rule " + start + "=" + before + row + "e : 0; rule " + before + "=c : 1; build : 5; has 0 1 0 b : 0; has 0 1 0 e : 0; entry 0 c : -1; "
                    + "check : 0");
        }
    }

    private static void first() {
        run("that symbol, too, if the row is nullable: an empty row", "rule A=C : 0; rule C=c : 1; build : 4; has 0 1 0 $ : 1; has 0 1 0 c : 0");
        run("that symbol, too, if the row is nullable",
            "rule A=CB : 0; rule C=c : 1; rule B=b : 2; rule B= : 3; build : 6; has 0 1 0 b : 1; has 0 1 0 $ : 1");
        run("that symbol not, if it is not", "rule A=CB : 0; rule C=c : 1; rule B=b : 2; build : 6; has 0 1 0 b : 1; has 0 1 0 $ : 0");
        run("that symbol is what the item has ahead",
            "rule A=aBa : 0; rule B=C : 1; rule C=c : 2; build : 7; has 2 1 0 a : 1; has 2 2 0 a : 1; has 2 2 0 $ : 0");
        run("a terminal ends the row", "rule A=Cab : 0; rule C=c : 1; build : 6; has 0 1 0 a : 1; has 0 1 0 b : 0");
        run("the first terminal and the last",
            "rule A=Ca : 0; rule A=Ce : 1; rule C=c : 2; build : 6; has 0 2 0 a : 1; has 0 2 0 e : 1; has 0 2 0 b : 0; has 0 2 0 d : 0; has 0 2 0 $ : 0");
        run("of one nullable nonterminal behind another",
            "rule A=CBDe : 0; rule C=c : 1; rule B=b : 2; rule B= : 3; rule D=d : 4; rule D= : 5; build : 9; has 0 1 0 b : 1; has 0 1 0 d : 1; has 0 1 0 e : 1",
            "has 0 1 0 a : 0; has 0 1 0 c : 0; has 0 1 0 $ : 0; check : 0");
        run("of a nonterminal that begins with itself",
            "rule A=CB : 0; rule C=c : 1; rule B=Bb : 2; rule B=d : 3; build : 7; has 0 1 0 d : 1; has 0 1 0 b : 0");
        run("of one that begins with itself and is nullable",
            "rule A=CB : 0; rule C=c : 1; rule B=Bb : 2; rule B= : 3; build : 6; has 0 1 0 b : 1; has 0 1 0 $ : 1");
    }

    private static void canonical() {
        run("state 0 is closed", "rule A=B : 0; rule B=b : 1; build : 4; has 0 2 0 $ : 1; has 0 0 0 $ : 1; has 0 1 0 $ : 1");
        run("the least closed set",
            "rule A=B : 0; rule B=b : 1; rule C=c : 2; build : 4; has 0 2 0 $ : 0; has 0 1 0 b : 0; has 0 1 1 $ : 0; has 3 1 0 $ : 0; has 3 1 1 $ : 1");
        run("for each symbol in their order",
            "rule A=e : 0; rule A=a : 1; rule A=Dc : 2; rule D=b : 3; build : 7; entry 0 A : 1; entry 0 D : 2; entry 0 a : 3",
            "entry 0 b : 4; entry 0 e : 5; entry 2 c : 6; entry 0 c : -1; entry 0 $ : -1; entry 6 $ : 102; states : 7");
        run("one that was found before: itself",
            "rule A=aA : 0; rule A=b : 1; build : 5; entry 0 a : 2; entry 2 a : 2; entry 0 b : 3; entry 2 b : 3");
        run("not one with other items ahead", "rule A=aAb : 0; rule A=c : 1; build : 10; entry 0 a : 2; entry 2 a : 5; entry 5 a : 5");
        run("not one with less of them",
            "rule A=Ca : 0; rule A=bC : 1; rule C=c : 2; build : 8; entry 0 c : 4; entry 3 c : 7; has 4 2 1 a : 1; has 4 2 1 $ : 0; has 7 2 1 $ : 1");
        run("all other entries are NONE",
            "rule A=a : 0; build : 3; entry 0 B : -1; entry 0 C : -1; entry 0 D : -1; entry 0 b : -1; entry 0 e : -1; entry 0 $ : -1",
            "entry 1 A : -1; entry 1 a : -1; entry 1 e : -1; entry 2 A : -1; entry 2 a : -1; entry 2 e : -1");
        run("REDUCE at what is ahead alone",
            "rule A=Ca : 0; rule A=Ce : 1; rule C=c : 2; build : 6; entry 3 a : 102; entry 3 e : 102; entry 3 b : -1; entry 3 d : -1; entry 3 $ : -1");
        run("REDUCE by rule 0 and by rule 7",
            "rule A=B : 0; rule C= : 1; rule C= : 2; rule C= : 3; rule C= : 4; rule C= : 5; rule C= : 6; rule B=b : 7",
            "build : 4; entry 2 $ : 100; entry 3 $ : 107; entry 1 $ : 200");
        run("ACCEPT for the TOP", "rule A=Aa : 0; rule A= : 1; build : 3; entry 1 $ : 200; entry 1 a : 2; entry 0 $ : 101; entry 0 a : 101");
    }

    private static void conflicts() {
        run("GO or REDUCE", "rule A=aB : 0; rule A=a : 1; rule B=b : 2; rule B= : 3; build : Unsupported");
        run("GO or REDUCE, but at another symbol", "rule A=aB : 0; rule A=a : 1; rule B=b : 2; build : 5; entry 2 b : 4; entry 2 $ : 101");
        run("REDUCE or REDUCE at $", "rule A=B : 0; rule A=C : 1; rule B=b : 2; rule C=b : 3; build : Unsupported");
        run("REDUCE or REDUCE at a terminal", "rule A=Bd : 0; rule A=Cd : 1; rule B=b : 2; rule C=b : 3; build : Unsupported");
        run("REDUCE or REDUCE, but at different ones",
            "rule A=Bd : 0; rule A=Ce : 1; rule B=b : 2; rule C=b : 3; build : 7; entry 4 d : 102; entry 4 e : 103");
        run("REDUCE or REDUCE of empty rows", "rule A=B : 0; rule A=C : 1; rule B= : 2; rule C= : 3; build : Unsupported");
        run("REDUCE or ACCEPT", "rule A=A : 0; rule A=a : 1; build : Unsupported");
        run("REDUCE or ACCEPT, by another nonterminal", "rule A=B : 0; rule B=A : 1; rule A=a : 2; build : Unsupported");
        run("GO or ACCEPT is none: $ is never a next", "rule A=Ab : 0; rule A=a : 1; build : 4; entry 1 b : 3; entry 1 $ : 200");
        run("the same rule twice", "rule A=a : 0; rule A=a : 1; build : Unsupported");
        run("the same rule twice, where nothing comes to it", "rule A=a : 0; rule B=a : 1; rule B=a : 2; build : 3; check : 0");
        run("in the last state alone", "rule A=abc : 0; rule A=abB : 1; rule B=c : 2; build : Unsupported");
        run("in state 0 alone", "rule A= : 0; rule A=B : 1; rule B= : 2; build : Unsupported");
        run("mended by a new grammar", "rule A=a : 0; rule A=a : 1; build : Unsupported; clear : ok; rule A=a : 0; build : 3; check : 0");
        run("a conflict by a rule more", "rule A=a : 0; build : 3; rule A=a : 1; build : Unsupported; states : 0");
    }

    /** The oracle, which may make more than 50, says that it is the number that is refused, and no conflict. */
    private static void howManyStates() {
        String[] grammars = {"A=cbac A=bAB A=aAa B=dc A=Bbd", "A=bAAb A=dadd A=adAc", "A=eAe A=aAAA A=ceAb A=b", "A=BbAe A=c B=aAAA A=bAac",
            "B=dBAA A=cBAA A=aBa B=Bba B=b", "B=bBBA A=aA B=ABc B=BdBa"};
        int[] due = {49, 50, 50, 51, 51, 52};
        for (int i = 0; i < grammars.length; i++) {
            Oracle wide = new Oracle(60);
            StringBuilder rules = new StringBuilder();
            for (String rule : Grammars.rules(grammars[i])) {
                rules.append("rule ").append(rule).append(" : ").append(wide.rule(Grammars.coded(rule))).append("; ");
            }
            if (wide.build() != due[i]) {
                throw new AssertionError(grammars[i]);
            }
            if (due[i] <= 50) {
                int last = due[i] - 1;
                run("at most 50",
                    rules + "build : " + due[i] + "; states : " + due[i] + "; check : 0; has " + last + " 0 0 a : 0; has " + due[i] + " 0 0 a : Index",
                    "entry " + last + " A : " + wide.entry(last, 0) + "; entry " + last + " b : " + wide.entry(last, 5) + "; entry " + due[i] + " 0 : Index",
                    "set " + last + " D " + last + " : ok; entry " + last + " D : " + last + "; set " + last + " D " + due[i] + " : Argument; "
                        + "set " + due[i] + " D 0 : Index",
                    "set " + last + " D -1 : ok; check : 0; turn " + last + " 0 0 a : 1; turn " + due[i] + " 0 0 a : Index; "
                        + "has " + last + " 0 0 a : 1; build : " + due[i]);
            } else {
                run("more than 50",
                    rules + "build : Unsupported; states : 0; check : State; parse 400 : State; entry 0 0 : Index; entry 49 0 : Index; build : Unsupported");
            }
        }
    }

    private static void whatBuildLeaves() {
        String conflict = "rule A=a : 0; rule A=a : 1; ";
        run("IllegalStateException if there are no rules", "build : State; build : State; rule A= : 0; build : 2");
        run("IllegalStateException if there are no rules: the input stays",
            "feed a : 1; build : State; feed b : 2; nodes : 0; depth : 0; states : 0; fault 0 : -1");
        run("no automaton then",
            conflict + "build : Unsupported; states : 0; entry 0 0 : Index; set 0 0 -1 : Index; has 0 0 0 $ : Index; turn 0 0 0 $ : Index",
            "check : State; parse 0 : State; fault 0 : -1");
        run("no parse then", conflict + "feed a : 1; build : Unsupported; nodes : 0; depth : 0; node 0 0 : Index");
        run("the rules stay", conflict + "build : Unsupported; rule B= : 2; build : Unsupported; rule B= : 3");
        run("the input stays", "feed a : 1; " + conflict + "build : Unsupported; feed a : 2; clear : ok; rule A=aa : 0; build : 4; parse 400 : 1");
        run("nothing of a failed one is left",
            "rule A=abcd : 0; rule B=abcd : 1; rule A=B : 2; build : Unsupported; clear : ok; rule A=a : 0; build : 3; check : 0",
            "entry 0 a : 2; entry 0 B : -1; has 0 0 0 $ : 1; has 2 0 1 $ : 1; has 2 0 0 $ : 0; entry 3 0 : Index");
        run("nothing of one with too many states is left",
            "rule A=BbAe : 0; rule A=c : 1; rule B=aAAA : 2; rule A=bAac : 3; build : Unsupported; clear : ok; rule A=abcd : 0; rule B=abcd : 1; "
                + "rule C=abcd : 2; rule D=abcd : 3; build : 6",
            "has 0 0 0 $ : 1; has 0 0 1 $ : 0; has 0 2 1 $ : 0; has 0 3 1 $ : 0; entry 0 a : 2; entry 0 b : -1; entry 5 $ : 100; check : 0");
        run("how many states: the fewest", "rule A= : 0; build : 2; states : 2");
        run("build() again is the same again", "rule A=a : 0; build : 3; build : 3; states : 3; entry 0 a : 2; check : 0");
        run("build() makes anew: entries",
            "rule A=a : 0; build : 3; set 2 $ 0 : ok; set 0 e 2 : ok; build : 3; entry 2 $ : 100; entry 0 e : -1; check : 0");
        run("build() makes anew: items",
            "rule A=a : 0; build : 3; turn 2 0 1 $ : 0; turn 2 0 0 e : 1; build : 3; has 2 0 1 $ : 1; has 2 0 0 e : 0; check : 0");
        run("build(): no parse then",
            "rule A=a : 0; build : 3; feed a : 1; parse 400 : 1; nodes : 2; build : 3; nodes : 0; depth : 0; node 0 0 : Index");
        run("build(): the input stays", "rule A=a : 0; build : 3; feed a : 1; build : 3; parse 400 : 1; feed a : 2");
    }

    private static void clear() {
        run("all rules are gone: the next is number 0",
            "rule A=a : 0; rule A=b : 1; clear : ok; build : State; rule A=c : 0; build : 3; entry 0 a : -1; entry 0 c : 2");
        run("and automaton",
            "rule A=a : 0; build : 3; clear : ok; states : 0; entry 0 0 : Index; has 0 0 0 $ : Index; check : State; parse 0 : State");
        run("and parse", "rule A=a : 0; build : 3; feed a : 1; parse 400 : 1; clear : ok; nodes : 0; depth : 0; node 0 0 : Index");
        run("and parse: one of no steps", "rule A=a : 0; build : 3; parse 0 : 0; depth : 1; clear : ok; depth : 0");
        run("of nothing", "clear : ok; states : 0; rule A= : 0; clear : ok; clear : ok; rule A= : 0");
        run("the input stays", "feed a : 1; clear : ok; feed a : 2; rule A=aa : 0; build : 4; parse 400 : 1");
    }
}
