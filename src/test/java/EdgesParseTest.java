/** The edges of promises 12 to 17: input, parse and tree, each sentence by runs of its own. */
public final class EdgesParseTest {
    private static final Runs RUNS = new Runs();

    private static final String SINGLE = "rule A=a : 0; build : 3; ";
    private static final String LEFT_LIST = "rule A=Aa : 0; rule A=a : 1; build : 4; ";
    private static final String NESTED = "rule A=aAb : 0; rule A= : 1; build : 8; ";
    private static final String FOUR = "rule A=abcd : 0; build : 6; ";
    /** Reads whatever is fed. */
    private static final String ANYTHING = "rule A=Aa : 0; rule A=Ab : 1; rule A=Ac : 2; rule A=Ad : 3; rule A=Ae : 4; rule A= : 5; build : 7; ";
    private static final String TWENTY = "aaaaaaaaaaaaaaaaaaaa";
    private static final String SMALLEST = "-2147483648";
    private static final String LARGEST = "2147483647";

    private EdgesParseTest() {
    }

    private static void run(String title, String... script) {
        RUNS.run(title, script);
    }

    private static String input(String terminals) {
        return Runs.input(terminals) + "; ";
    }

    /** Rows for the whole tree: for each node its symbol, rule, parent, place and width. */
    private static String tree(String... nodes) {
        StringBuilder rows = new StringBuilder("nodes : " + nodes.length);
        for (int i = 0; i < nodes.length; i++) {
            String[] due = nodes[i].split(" ");
            rows.append("; node ").append(i).append(" 0 : ").append(Grammars.symbol(due[0].charAt(0)));
            for (int what = 1; what < 5; what++) {
                rows.append("; node ").append(i).append(' ').append(what).append(" : ").append(due[what]);
            }
        }
        return rows + "; node " + nodes.length + " 0 : Index";
    }

    public static void main(String[] arguments) {
        feedTerminals();
        feedTwenty();
        feedAndTheParse();
        empty();
        steps();
        stepsToAnOutcome();
        rejected();
        go();
        reduceTooFew();
        reduceOtherSymbols();
        reduceWithoutGo();
        reduceByTheTop();
        accept();
        sixtyNodes();
        noRoomAt();
        noRoomIsLast();
        nodes();
        nodeNumbers();
        trees();
        depth();
        manyCalls();
        System.exit(RUNS.finish());
    }

    private static void feedTerminals() {
        run("4 and below", "feed 3 : -1; feed 0 : -1; feed -1 : -1; feed " + SMALLEST + " : -1; feed 4 : 1; feed 3 : -1; feed 4 : 2");
        run("8 and above", "feed 9 : -1; feed 10 : -1; feed " + LARGEST + " : -1; feed 8 : 1; feed 9 : -1; feed 8 : 2");
        run("each terminal", FOUR + "feed 4 : 1; feed 5 : 2; feed 6 : 3; feed 7 : 4; parse 400 : 1; feed 8 : 5; parse 400 : 2");
        run("the last terminal", "rule A=e : 0; build : 3; feed 8 : 1; parse 400 : 1; node 0 0 : 8");
        run("what is refused is not in the input",
            FOUR + "feed 4 : 1; feed 9 : -1; feed 5 : 2; feed 3 : -1; feed 6 : 3; feed 7 : 4; parse 400 : 1; nodes : 5");
    }

    private static void feedTwenty() {
        String full = ANYTHING + input(TWENTY);
        run("-1 if there are 20", full + "feed a : -1; feed e : -1; feed a : -1; parse 400 : 1; nodes : 41; node 40 4 : 20");
        run("-1 if there are 20: no terminal either", full + "feed $ : -1; feed D : -1; parse 400 : 1; nodes : 41");
        run("19 are not 20",
            ANYTHING + input("aaaaaaaaaaaaaaaaaaa") + "feed $ : -1; feed b : 20; feed b : -1; parse 400 : 1; node 39 0 : 5; node 39 3 : 19");
        run("the 20th is the last",
            ANYTHING + input("aaaaaaaaaaaaaaaaaaae") + "parse 400 : 1; nodes : 41; node 39 0 : 8; node 39 3 : 19; node 39 4 : 1; node 40 4 : 20");
        run("the 21st is not read", ANYTHING + input(TWENTY) + "feed e : -1; parse 400 : 1; node 39 0 : 4; nodes : 41");
        run("room again behind empty()", full + "feed a : -1; empty : ok; feed a : 1; parse 400 : 1; nodes : 3; " + input(TWENTY) + "feed a : -1");
        run("clear() makes no room", full + "clear : ok; feed a : -1; rule A=a : 0; feed a : -1; build : 3; feed a : -1; parse 400 : 2");
    }

    private static void feedAndTheParse() {
        run("there is no parse then", SINGLE + "feed a : 1; parse 400 : 1; feed a : 2; nodes : 0; depth : 0; node 0 0 : Index; parse 400 : 2");
        run("there is no parse then: one of no steps", SINGLE + "parse 0 : 0; depth : 1; feed a : 1; depth : 0");
        run("refused, it changes nothing: no terminal",
            SINGLE + "feed a : 1; parse 400 : 1; feed 3 : -1; feed 9 : -1; nodes : 2; depth : 2; node 0 2 : 1; feed a : 2; nodes : 0");
        run("refused, it changes nothing: 20",
            ANYTHING + input(TWENTY) + "parse 400 : 1; feed a : -1; nodes : 41; depth : 2; node 39 2 : 40; parse 400 : 1");
        run("the automaton stays, and the fault",
            SINGLE + "set 2 $ -1 : ok; check : 8; feed a : 1; states : 3; fault 0 : 2; fault 3 : 9; entry 2 $ : -1; check : 8");
        run("without an automaton",
            "feed a : 1; feed a : 2; rule A=aa : 0; feed a : 3; empty : ok; feed a : 1; feed a : 2; build : 4; parse 400 : 1");
    }

    private static void empty() {
        run("the input is empty", SINGLE + "feed a : 1; empty : ok; parse 400 : 2; nodes : 0; feed a : 1; parse 400 : 1");
        run("of nothing", "empty : ok; empty : ok; feed a : 1");
        run("there is no parse then", SINGLE + "feed a : 1; parse 400 : 1; empty : ok; nodes : 0; depth : 0; node 0 0 : Index");
        run("there is no parse then: of an empty input",
            "rule A= : 0; build : 2; parse 400 : 1; nodes : 1; empty : ok; nodes : 0; depth : 0; parse 400 : 1");
        run("there is no parse then: one of no steps", SINGLE + "parse 0 : 0; depth : 1; empty : ok; depth : 0");
        run("automaton, rules and fault stay",
            SINGLE + "set 2 $ -1 : ok; check : 8; empty : ok; states : 3; fault 0 : 2; check : 8; build : 3; rule A=b : 1");
        run("nothing of the old input comes back", LEFT_LIST + input("aaaa") + "empty : ok; feed a : 1; parse 400 : 1; nodes : 2; node 1 4 : 1");
    }

    private static void steps() {
        run("0 steps", SINGLE + "feed a : 1; parse 0 : 0; nodes : 0; depth : 1; node 0 0 : Index");
        run("400 steps", SINGLE + "feed a : 1; parse 400 : 1");
        run("steps is below 0", SINGLE + "parse -1 : Argument; parse " + SMALLEST + " : Argument; nodes : 0; depth : 0");
        run("steps is above 400", SINGLE + "parse 401 : Argument; parse " + LARGEST + " : Argument; nodes : 0; depth : 0");
        run("what throws leaves the parse: below", SINGLE + "feed a : 1; parse 2 : 0; parse -1 : Argument; nodes : 2; depth : 2; node 0 2 : 1");
        run("what throws leaves the parse: above", SINGLE + "feed a : 1; parse 1 : 0; parse 401 : Argument; nodes : 1; depth : 2; node 0 2 : -1");
        run("no automaton", "parse 0 : State; parse 400 : State; rule A=a : 0; parse 0 : State; nodes : 0; depth : 0");
        run("no automaton any more: clear()", SINGLE + "parse 0 : 0; clear : ok; parse 0 : State; depth : 0");
        run("no automaton any more: rule()", SINGLE + "parse 0 : 0; rule A=b : 1; parse 0 : State; depth : 0");
        run("no automaton any more: build()", SINGLE + "parse 0 : 0; rule A=a : 1; build : Unsupported; parse 0 : State; depth : 0");
        run("the first one named", "parse -1 : State; parse 401 : State; rule A=a : 0; parse 401 : State; build : 3; parse 401 : Argument");
        run("from its beginning",
            SINGLE + "feed a : 1; parse 1 : 0; parse 1 : 0; nodes : 1; depth : 2; parse 2 : 0; nodes : 2; parse 1 : 0; nodes : 1; node 0 2 : -1; "
                + "parse 0 : 0; nodes : 0");
    }

    /** An outcome takes a step of its own: with one less it has not come to it yet. */
    private static void stepsToAnOutcome() {
        run("ACCEPTED", SINGLE + "feed a : 1; parse 2 : 0; nodes : 2; depth : 2; parse 3 : 1; nodes : 2; depth : 2; parse 4 : 1");
        run("REJECTED", SINGLE + input("ab") + "parse 1 : 0; nodes : 1; depth : 2; parse 2 : 2; nodes : 1; depth : 2; parse 3 : 2");
        run("REJECTED at once", SINGLE + "feed b : 1; parse 0 : 0; parse 1 : 2");
        run("INTERNAL", SINGLE + "set 2 $ 1 : ok; feed a : 1; parse 1 : 0; nodes : 1; parse 2 : 3; nodes : 1; depth : 2; parse 3 : 3");
        run("INTERNAL at once", SINGLE + "set 0 $ 101 : ok; parse 0 : 0; parse 1 : 3");
        run("NO ROOM",
            "rule A=a : 0; rule A= : 1; build : 3; set 0 A 0 : ok; set 0 $ 101 : ok; parse 59 : 0; nodes : 59; parse 60 : 0; nodes : 60; parse 61 : 4; "
                + "nodes : 60; parse 62 : 4; parse 400 : 4");
    }

    private static void rejected() {
        run("NONE in state 0", SINGLE + "feed b : 1; parse 400 : 2; nodes : 0; depth : 1");
        run("NONE at $", SINGLE + "parse 400 : 2; nodes : 0; depth : 1");
        run("NONE behind some steps: nothing is taken off", NESTED + input("aab") + "parse 400 : 2; nodes : 4; depth : 5; node 3 2 : -1");
        run("NONE at $ behind 20", NESTED + input("aaaaaaaaaabbbbbbbbba") + "parse 400 : 2; " + input("aaaaaaaaaabbbbbbbbbb") + "parse 400 : 1");
        run("NONE for one more than there should be", SINGLE + input("aa") + "parse 400 : 2; nodes : 1; depth : 2; node 0 0 : 4");
        run("one input after another", SINGLE + input("b") + "parse 400 : 2; " + input("a") + "parse 400 : 1; " + input("") + "parse 400 : 2");
    }

    private static void go() {
        run("GO: a node for that terminal", SINGLE + "feed a : 1; parse 1 : 0; " + tree("a -1 -1 0 1") + "; depth : 2");
        run("GO: the input is one farther",
            FOUR + input("abcd") + "parse 4 : 0; " + tree("a -1 -1 0 1", "b -1 -1 1 1", "c -1 -1 2 1", "d -1 -1 3 1") + "; depth : 5");
        run("GO to state 0",
            "rule A=ab : 0; build : 4; set 0 c 0 : ok; " + input("cab") + "parse 1 : 0; depth : 2; parse 400 : 3; depth : 3; "
                + "" + tree("c -1 -1 0 1", "a -1 3 1 1", "b -1 3 2 1", "A 0 -1 1 2"));
        run("GO to itself", LEFT_LIST + "set 2 a 2 : ok; set 2 $ -1 : ok; " + input("aaa") + "parse 400 : 2; nodes : 3; depth : 4");
        run("GO at $: no input at all", SINGLE + "set 0 $ 1 : ok; parse 400 : 3; nodes : 0; depth : 1");
        run("GO at $: behind the input", SINGLE + "set 2 $ 1 : ok; feed a : 1; parse 400 : 3; nodes : 1; depth : 2; node 0 2 : -1");
        run("GO at $: behind 20", LEFT_LIST + "set 1 $ 1 : ok; " + input(TWENTY) + "parse 400 : 3; nodes : 40; depth : 2");
        run("GO at $: to state 0", SINGLE + "set 0 $ 0 : ok; parse 400 : 3; nodes : 0; depth : 1");
        run("GO by a terminal that no rule has", SINGLE + "set 0 e 2 : ok; feed e : 1; parse 1 : 0; node 0 0 : 8; depth : 2");
    }

    private static void reduceTooFew() {
        run("0 of 4", FOUR + "set 0 $ 100 : ok; parse 400 : 3; nodes : 0; depth : 1");
        run("1 of 4", FOUR + "set 2 $ 100 : ok; feed a : 1; parse 400 : 3; nodes : 1; depth : 2; node 0 2 : -1");
        run("3 of 4", FOUR + "set 4 $ 100 : ok; " + input("abc") + "parse 400 : 3; nodes : 3; depth : 4; node 0 2 : -1; node 2 2 : -1");
        run("4 of 4", FOUR + input("abcd") + "parse 5 : 0; nodes : 5; depth : 2; node 0 2 : 4; node 3 2 : 4; parse 400 : 1");
        run("5 of 4",
            FOUR + "set 0 e 0 : ok; " + input("eabcd") + "parse 6 : 0; nodes : 6; depth : 3; node 0 2 : -1; node 1 2 : 5; node 5 3 : 1; node 5 4 : 4; "
                + "parse 7 : 3");
        run("0 of 0", "rule A= : 0; build : 2; parse 1 : 0; " + tree("A 0 -1 0 0") + "; depth : 2; parse 2 : 1");
        run("1 of 0",
            "rule A=a : 0; rule B= : 1; build : 3; set 2 $ 101 : ok; set 2 B 1 : ok; feed a : 1; parse 2 : 0; "
                + "" + tree("a -1 -1 0 1", "B 1 -1 1 0") + "; depth : 3; parse 3 : 3");
        run("0 of 1", SINGLE + "set 0 a 100 : ok; feed a : 1; parse 400 : 3; nodes : 0; depth : 1");
        run("1 of 1", SINGLE + "feed a : 1; parse 2 : 0; nodes : 2; depth : 2");
        run("1 of 2", "rule A=aa : 0; build : 4; set 2 $ 100 : ok; feed a : 1; parse 400 : 3; nodes : 1; depth : 2");
    }

    private static void reduceOtherSymbols() {
        run("the first of 4",
            FOUR + "set 0 e 2 : ok; " + input("ebcd") + "parse 400 : 3; nodes : 4; depth : 5; node 0 2 : -1; node 3 2 : -1; "
                + "" + input("abcd") + "parse 400 : 1");
        run("the second of 4", FOUR + "set 2 e 3 : ok; " + input("aecd") + "parse 400 : 3; nodes : 4; depth : 5; node 0 2 : -1");
        run("the third of 4", FOUR + "set 3 e 4 : ok; " + input("abed") + "parse 400 : 3; nodes : 4; depth : 5; node 0 2 : -1");
        run("the last of 4", FOUR + "set 4 e 5 : ok; " + input("abce") + "parse 400 : 3; nodes : 4; depth : 5; node 0 2 : -1");
        run("in another order",
            "rule A=ab : 0; build : 4; set 0 b 2 : ok; set 2 a 3 : ok; " + input("ba") + "parse 400 : 3; depth : 3; " + input("ab") + "parse 400 : 1");
        run("a terminal for a nonterminal",
            "rule A=B : 0; rule B=b : 1; build : 4; set 3 $ 100 : ok; feed b : 1; parse 400 : 3; nodes : 1; depth : 2");
        run("a nonterminal for a terminal",
            "rule A=B : 0; rule B=b : 1; build : 4; set 2 $ 101 : ok; feed b : 1; parse 400 : 3; nodes : 2; depth : 2; node 1 2 : -1");
        run("another nonterminal",
            "rule A=B : 0; rule A=cC : 1; rule B=b : 2; rule C=b : 3; rule D=C : 4; build : 7; set 2 $ 104 : ok; feed b : 1; parse 400 : 3; nodes : 2; "
                + "depth : 2");
        run("what is below the row may be anything",
            "rule A=a : 0; build : 3; set 0 e 0 : ok; " + input("ea") + "parse 3 : 0; nodes : 3; depth : 3; node 2 2 : -1; node 1 2 : 2; node 0 2 : -1");
        run("the symbols count, not the states",
            SINGLE + "set 0 a 1 : ok; set 1 $ 100 : ok; feed a : 1; parse 2 : 0; nodes : 2; depth : 2; node 0 2 : 1; parse 3 : 3");
    }

    /** The node is made and has its children, but does not come onto the stack. */
    private static void reduceWithoutGo() {
        for (String entry : new String[] {"-1", "100", "101", "200"}) {
            run("the entry has to be GO, not " + entry, SINGLE + "set 0 A " + entry + " : ok; feed a : 1; parse 1 : 0; parse 2 : 3; "
                + "" + tree("a -1 1 0 1", "A 0 -1 0 1") + "; depth : 1");
        }
        run("GO to state 0 is GO",
            SINGLE + "set 0 A 0 : ok; feed a : 1; parse 2 : 0; " + tree("a -1 1 0 1", "A 0 -1 0 1") + "; depth : 2; parse 3 : 2");
        run("GO to the last state is GO", SINGLE + "set 0 A 2 : ok; feed a : 1; parse 2 : 0; nodes : 2; depth : 2; parse 3 : 3");
        run("an empty row", "rule A= : 0; build : 2; set 0 A -1 : ok; parse 1 : 3; " + tree("A 0 -1 0 0") + "; depth : 1");
        run("of the topmost state that is left, not of another one",
            NESTED + "set 2 A -1 : ok; " + input("aabb") + "parse 400 : 3; nodes : 5; depth : 2; node 4 0 : 0; node 4 3 : 1; node 4 4 : 2; "
                + "node 4 2 : -1; node 1 2 : 4");
        run("a row of 4",
            FOUR + "set 0 A -1 : ok; " + input("abcd") + "parse 400 : 3; nodes : 5; depth : 1; node 0 2 : 4; node 3 2 : 4; node 4 4 : 4");
    }

    private static void reduceByTheTop() {
        run("with the start on the stack", SINGLE + "set 1 $ 101 : ok; feed a : 1; parse 2 : 0; parse 3 : 3; nodes : 2; depth : 2; node 1 2 : -1");
        run("with nothing on the stack", SINGLE + "set 0 $ 101 : ok; parse 1 : 3; nodes : 0; depth : 1");
        run("with something else on the stack", SINGLE + "set 2 $ 101 : ok; feed a : 1; parse 2 : 3; nodes : 1; depth : 2; node 0 2 : -1");
        run("at a terminal", SINGLE + "set 0 a 101 : ok; feed a : 1; parse 1 : 3; nodes : 0; depth : 1");
        run("of 8 rules",
            "rule A=a : 0; rule B= : 1; rule B= : 2; rule B= : 3; rule B= : 4; rule B= : 5; rule B= : 6; rule B= : 7; build : 3; set 1 $ 108 : ok; "
                + "feed a : 1; parse 400 : 3; nodes : 2; depth : 2");
        run("but by the last rule", "rule A=B : 0; rule B=b : 1; build : 4; feed b : 1; parse 400 : 1; node 1 1 : 1; node 2 1 : 0");
    }

    private static void accept() {
        run("just one node, for the start", SINGLE + "feed a : 1; parse 400 : 1; nodes : 2; depth : 2; node 1 0 : 0; node 1 2 : -1");
        run("no node", SINGLE + "set 0 $ 200 : ok; parse 400 : 3; nodes : 0; depth : 1");
        run("one node, for a terminal", SINGLE + "set 2 $ 200 : ok; feed a : 1; parse 400 : 3; nodes : 1; depth : 2");
        run("one node, for another nonterminal",
            "rule A=B : 0; rule B=b : 1; build : 4; set 2 $ 200 : ok; feed b : 1; parse 400 : 3; nodes : 2; depth : 2");
        run("one node, for the start that is not A",
            "rule D=A : 0; rule A=a : 1; build : 4; feed a : 1; parse 400 : 1; nodes : 3; set 3 $ 200 : ok; parse 400 : 3; set 3 $ 101 : ok; "
                + "entry 2 $ : 200; parse 400 : 1");
        run("two nodes, the start below", LEFT_LIST + "set 3 $ 200 : ok; " + input("aa") + "parse 400 : 3; nodes : 3; depth : 3");
        run("two nodes, the start above", SINGLE + "set 0 e 0 : ok; " + input("ea") + "parse 400 : 3; nodes : 3; depth : 3");
        run("two nodes, both for the start",
            "rule A=a : 0; rule A= : 1; build : 3; set 1 $ 101 : ok; set 1 A 2 : ok; set 2 $ 200 : ok; parse 2 : 0; depth : 3; parse 3 : 3; nodes : 2; depth : 3");
        run("one node for the start by another rule of its", NESTED + "parse 400 : 1; " + tree("A 1 -1 0 0") + "; depth : 2");
        run("at a terminal, with input left",
            SINGLE + "set 2 b 100 : ok; set 1 b 200 : ok; " + input("abb") + "parse 400 : 1; nodes : 2; depth : 2; node 1 4 : 1");
        run("at a terminal, with nothing on the stack", SINGLE + "set 0 b 200 : ok; feed b : 1; parse 400 : 3; nodes : 0; depth : 1");
        run("whatever the state and its items",
            SINGLE + "set 0 A 2 : ok; set 2 $ 100 : ok; turn 1 1 1 $ : 0; feed a : 1; parse 3 : 3; set 0 A 0 : ok; set 0 $ 200 : ok; parse 3 : 1; "
                + "nodes : 2; depth : 2");
    }

    /** A left list of B's makes 3 nodes for each terminal, 60 for 20 of them. */
    private static void sixtyNodes() {
        String sixty = "rule A=AB : 0; rule A=B : 1; rule B=a : 2; build : 5; ";
        run("the 60th is made",
            sixty + input(TWENTY) + "parse 400 : 1; nodes : 60; depth : 2; node 59 0 : 0; node 59 1 : 0; node 59 2 : -1; node 59 3 : 0; "
                + "node 59 4 : 20; node 60 0 : Index");
        run("the 60th is made, with a step left for the outcome",
            sixty + input(TWENTY) + "parse 59 : 0; nodes : 59; parse 60 : 0; nodes : 60; parse 61 : 1");
        run("the 60th is made by a GO",
            "rule A=AaB : 0; rule A=C : 1; rule B= : 2; rule C= : 3; build : 5; " + input(TWENTY) + "parse 59 : 0; nodes : 59; depth : 2; "
                + "parse 60 : 0; nodes : 60; depth : 3",
            "node 59 0 : 4; node 59 3 : 19; parse 61 : 4; nodes : 60; depth : 3; node 58 2 : -1; node 59 2 : -1");
        run("a 61st is not",
            "rule C=A : 0; rule A=AB : 1; rule A=B : 2; rule B=a : 3; build : 6; " + input(TWENTY) + "parse 60 : 0; nodes : 60; depth : 2; "
                + "parse 61 : 4; nodes : 60; depth : 2",
            "node 59 0 : 0; node 59 2 : -1; node 60 0 : Index; parse 400 : 4");
        run("one terminal less, and there is room",
            "rule C=A : 0; rule A=AB : 1; rule A=B : 2; rule B=a : 3; build : 6; " + input("aaaaaaaaaaaaaaaaaaa") + "parse 400 : 1; nodes : 58; depth : 2");
        run("room again in the next parse",
            "rule C=A : 0; rule A=AB : 1; rule A=B : 2; rule B=a : 3; build : 6; " + input(TWENTY) + "parse 400 : 4; nodes : 60; parse 3 : 0; "
                + "nodes : 3; " + input("a") + "parse 400 : 1; nodes : 4");
    }

    private static void noRoomAt() {
        run("a GO",
            "rule A=AaB : 0; rule A=C : 1; rule B= : 2; rule C=D : 3; rule D= : 4; build : 6; " + input(TWENTY) + "parse 60 : 0; nodes : 60; "
                + "depth : 2; parse 61 : 4; nodes : 60; depth : 2; node 59 2 : -1");
        run("a REDUCE of an empty row",
            "rule A=aBCA : 0; rule A= : 1; rule B= : 2; rule C= : 3; build : 6; " + input(TWENTY) + "parse 60 : 0; nodes : 60; depth : 61; "
                + "parse 61 : 4; nodes : 60; depth : 61; node 59 2 : -1");
        run("a REDUCE of 2: nothing is taken off",
            "rule A=AB : 0; rule A= : 1; rule B=a : 2; build : 4; " + input(TWENTY) + "parse 60 : 0; nodes : 60; depth : 3; parse 61 : 4; nodes : 60; "
                + "depth : 3; node 57 2 : -1; node 58 2 : 59; node 59 2 : -1");
        run("a REDUCE of 4: nothing is taken off",
            "rule A=AaBB : 0; rule A= : 1; rule B= : 2; build : 5; " + input("aaaaaaaaaaaaaaa") + "parse 60 : 0; nodes : 60; depth : 5; parse 61 : 4; "
                + "nodes : 60; depth : 5",
            "node 56 2 : -1; node 57 2 : -1; node 58 2 : -1; node 59 2 : -1");
    }

    /** With 60 nodes, what makes no node is as ever. */
    private static void noRoomIsLast() {
        String sixty = "rule A=AB : 0; rule A=B : 1; rule B=a : 2; rule C=A : 3; build : 5; " + input(TWENTY);
        run("NONE", sixty + "set 1 $ -1 : ok; parse 400 : 2; nodes : 60; depth : 2");
        run("ACCEPT", sixty + "parse 400 : 1; nodes : 60; depth : 2");
        run("GO at $", sixty + "set 1 $ 2 : ok; parse 400 : 3; nodes : 60; depth : 2");
        run("REDUCE of too few", sixty + "set 1 $ 100 : ok; parse 400 : 3; nodes : 60; depth : 2");
        run("REDUCE of other symbols", sixty + "set 1 $ 102 : ok; parse 400 : 3; nodes : 60; depth : 2");
        run("REDUCE by the TOP", sixty + "set 1 $ 104 : ok; parse 400 : 3; nodes : 60; depth : 2");
        run("REDUCE that has no GO would make a 61st first",
            sixty + "set 1 $ 103 : ok; entry 0 C : -1; parse 400 : 4; nodes : 60; depth : 2; node 59 2 : -1");
    }

    private static void nodes() {
        run("0 if there is none", "nodes : 0; rule A=a : 0; nodes : 0; build : 3; nodes : 0; feed a : 1; nodes : 0");
        run("0 if it has made none", SINGLE + "feed a : 1; parse 0 : 0; nodes : 0; parse 1 : 0; nodes : 1");
        run("the latest parse", NESTED + input("ab") + "parse 400 : 1; nodes : 4; parse 2 : 0; nodes : 2; parse 3 : 0; nodes : 3");
        run("also those that are no longer on the stack", LEFT_LIST + input("aaa") + "parse 400 : 1; depth : 2; nodes : 6");
    }

    private static void nodeNumbers() {
        String parsed = SINGLE + "feed a : 1; parse 400 : 1; ";
        run("no such node: below", parsed + "node 0 0 : 4; node -1 0 : Index; node " + SMALLEST + " 0 : Index");
        run("no such node: above", parsed + "node 1 0 : 0; node 2 0 : Index; node 59 0 : Index; node 60 0 : Index; node " + LARGEST + " 0 : Index");
        run("no such node: of an earlier parse", parsed + "parse 1 : 0; node 0 0 : 4; node 1 0 : Index; parse 0 : 0; node 0 0 : Index");
        run("no such what: below", parsed + "node 0 0 : 4; node 0 -1 : Argument; node 1 -1 : Argument; node 0 " + SMALLEST + " : Argument");
        run("no such what: above", parsed + "node 0 4 : 1; node 0 5 : Argument; node 1 5 : Argument; node 0 " + LARGEST + " : Argument");
        run("the first one named", parsed + "node 2 5 : Index; node -1 -1 : Index; node 2 -1 : Index; parse 0 : 0; node 0 5 : Index");
        run("no parse", "node 0 0 : Index; node 0 5 : Index; " + SINGLE + "node 0 0 : Index; node 0 -1 : Index");
        run("what throws leaves the parse", parsed + "node 2 0 : Index; node 0 5 : Argument; " + tree("a -1 1 0 1", "A 0 -1 0 1") + "; depth : 2");
    }

    private static void trees() {
        run("a terminal has no rule", SINGLE + "feed a : 1; parse 400 : 1; " + tree("a -1 1 0 1", "A 0 -1 0 1"));
        run("none's child as long as it is none's",
            NESTED + input("ab") + "parse 3 : 0; " + tree("a -1 -1 0 1", "A 1 -1 1 0", "b -1 -1 1 1"), "parse 4 : 0; "
                + "" + tree("a -1 3 0 1", "A 1 3 1 0", "b -1 3 1 1", "A 0 -1 0 2"));
        run("an empty one begins where the next terminal is",
            "rule A=BaC : 0; rule B= : 1; rule C= : 2; build : 5; feed a : 1; parse 400 : 1; " + tree("B 1 3 0 0", "a -1 3 0 1", "C 2 3 1 0", "A 0 -1 0 1"));
        run("empty ones of empty ones",
            "rule A=BB : 0; rule B=CC : 1; rule C= : 2; build : 6; parse 400 : 1; "
                + "" + tree("C 2 2 0 0", "C 2 2 0 0", "B 1 6 0 0", "C 2 5 0 0", "C 2 5 0 0", "B 1 6 0 0", "A 0 -1 0 0"));
        run("empty ones of empty ones behind the last terminal",
            "rule A=aB : 0; rule B=CC : 1; rule C= : 2; build : 6; feed a : 1; parse 400 : 1; "
                + "" + tree("a -1 4 0 1", "C 2 3 1 0", "C 2 3 1 0", "B 1 4 1 0", "A 0 -1 0 1"));
        run("the last place of 20",
            ANYTHING + input(TWENTY) + "parse 400 : 1; node 39 3 : 19; node 39 4 : 1; node 40 3 : 0; node 40 4 : 20; node 0 3 : 0; node 0 4 : 0; "
                + "node 38 3 : 0; node 38 4 : 19; node 38 2 : 40");
        run("rule 7",
            "rule A=B : 0; rule C= : 1; rule C= : 2; rule C= : 3; rule C= : 4; rule C= : 5; rule C= : 6; rule B=b : 7; build : 4; feed b : 1; "
                + "parse 400 : 1; " + tree("b -1 1 0 1", "B 7 2 0 1", "A 0 -1 0 1"));
        run("nothing of an earlier tree",
            NESTED + input("ab") + "parse 400 : 1; node 0 2 : 3; " + input("b") + "parse 400 : 2; nodes : 0; " + input("aa") + "parse 400 : 2; "
                + "" + tree("a -1 -1 0 1", "a -1 -1 1 1"));
    }

    private static void depth() {
        run("0 if there is none", "depth : 0; rule A=a : 0; depth : 0; build : 3; depth : 0; feed a : 1; depth : 0; check : 0; depth : 0");
        run("the first state counted", SINGLE + "parse 0 : 0; depth : 1; parse 400 : 2; depth : 1");
        run("the most",
            "rule A=aBCA : 0; rule A= : 1; rule B= : 2; rule C= : 3; build : 6; " + input(TWENTY) + "parse 60 : 0; depth : 61; parse 400 : 4; depth : 61");
        run("of the latest parse", NESTED + input("aabb") + "parse 3 : 0; depth : 4; parse 1 : 0; depth : 2; parse 400 : 1; depth : 2");
        run("a parse that threw is none", NESTED + "parse 401 : Argument; depth : 0; parse 0 : 0; parse 401 : Argument; depth : 1");
    }

    private static void manyCalls() {
        StringBuilder calls = new StringBuilder(SINGLE + "feed a : 1; ");
        for (int i = 0; i < 508; i++) {
            calls.append("parse 400 : 1; ");
        }
        run("the 512th call is as any other", calls + "nodes : 2");
    }
}
