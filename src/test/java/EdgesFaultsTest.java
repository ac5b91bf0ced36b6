/** The edges of promises 6 to 11: entries, items and faults, each sentence by runs of its own. */
public final class EdgesFaultsTest {
    private static final Runs RUNS = new Runs();

    private static final String SINGLE = "rule A=a : 0; build : 3; ";
    private static final String LEFT_LIST = "rule A=Aa : 0; rule A=a : 1; build : 4; ";
    private static final String NESTED = "rule A=aAb : 0; rule A= : 1; build : 8; ";
    private static final String SMALLEST = "-2147483648";
    private static final String LARGEST = "2147483647";

    /** For each kind of fault what brings it into NESTED, and no kind before it. */
    private static final String[] SPOIL = {
        "turn 7 2 0 e : 1",
        "set 7 d 5 : ok",
        "set 7 C 200 : ok",
        "turn 7 0 0 e : 1",
        "turn 0 2 0 $ : 0; turn 1 2 1 $ : 0; set 1 $ -1 : ok",
        "turn 4 1 0 b : 0; set 4 b -1 : ok",
        "set 6 b -1 : ok",
        "set 7 b -1 : ok",
    };

    /** For each kind what takes it away again. */
    private static final String[] MEND = {
        "turn 7 2 0 e : 0",
        "set 7 d -1 : ok",
        "set 7 C -1 : ok",
        "turn 7 0 0 e : 0",
        "turn 0 2 0 $ : 1; turn 1 2 1 $ : 1; set 1 $ 200 : ok",
        "turn 4 1 0 b : 1; set 4 b 101 : ok",
        "set 6 b 7 : ok",
        "set 7 b 100 : ok",
    };

    /** For each kind where it is found then. */
    private static final String[] FOUND = {"7 2 0 8", "7 7 -1 -1", "7 2 -1 -1", "7 0 0 8", "0 -1 -1 -1", "4 0 1 5", "6 0 2 5", "7 0 3 5"};

    private EdgesFaultsTest() {
    }

    private static void run(String title, String... script) {
        RUNS.run(title, script);
    }

    /** Rows that check, and look where the fault is. */
    private static String look(int kind, String where) {
        String[] at = where.split(" ");
        return "check : " + kind + "; fault 0 : " + at[0] + "; fault 1 : " + at[1] + "; fault 2 : " + at[2] + "; fault 3 : " + at[3];
    }

    public static void main(String[] arguments) {
        entry();
        setPlaces();
        setEntries();
        setLeaves();
        items("has");
        items("turn");
        has();
        turn();
        kindsInTheirOrder();
        statesInTheirOrder();
        itemsInTheirOrder();
        unfounded();
        foreign();
        boldReduce();
        boldAccept();
        boldGo();
        homeless();
        rootless();
        open();
        lazy();
        shy();
        check();
        fault();
        faultIsKept();
        System.exit(RUNS.finish());
    }

    private static void entry() {
        run("no such state: below", SINGLE + "entry 0 0 : 1; entry -1 0 : Index; entry " + SMALLEST + " 0 : Index");
        run("no such state: above",
            SINGLE + "entry 2 9 : 100; entry 3 9 : Index; entry 3 0 : Index; entry 49 0 : Index; entry 50 0 : Index; entry " + LARGEST + " 0 : Index");
        run("no such symbol: below", SINGLE + "entry 1 0 : -1; entry 1 -1 : Index; entry 2 -1 : Index; entry 1 " + SMALLEST + " : Index");
        run("no such symbol: above", SINGLE + "entry 1 9 : 200; entry 1 10 : Index; entry 0 10 : Index; entry 1 " + LARGEST + " : Index");
        run("no such state nor symbol", SINGLE + "entry -1 -1 : Index; entry 3 10 : Index; entry -1 10 : Index; entry 3 -1 : Index");
        run("no state: no automaton yet", "rule A=a : 0; entry 0 0 : Index");
        run("no state: no automaton any more", SINGLE + "entry 0 0 : 1; clear : ok; entry 0 0 : Index");
        run("fewer states than before", NESTED + "entry 7 b : 100; clear : ok; " + SINGLE + "entry 2 b : -1; entry 3 b : Index; entry 7 b : Index");
        run("an entry asked for changes nothing",
            SINGLE + "feed a : 1; parse 400 : 1; entry 0 0 : 1; entry 3 0 : Index; nodes : 2; depth : 2; entry 0 0 : 1");
    }

    private static void setPlaces() {
        run("set: no such state: below", SINGLE + "set -1 0 -1 : Index; set " + SMALLEST + " 0 -1 : Index; set 0 0 -1 : ok; entry 0 0 : -1");
        run("set: no such state: above",
            SINGLE + "set 3 0 -1 : Index; set 50 0 -1 : Index; set " + LARGEST + " 0 -1 : Index; set 2 9 -1 : ok; entry 2 9 : -1");
        run("set: no such symbol: below",
            SINGLE + "set 1 -1 0 : Index; set 1 " + SMALLEST + " 0 : Index; entry 0 9 : -1; set 1 0 0 : ok; entry 1 0 : 0; entry 0 9 : -1");
        run("set: no such symbol: above",
            SINGLE + "set 0 10 0 : Index; set 0 " + LARGEST + " 0 : Index; entry 1 0 : -1; set 0 9 0 : ok; entry 0 9 : 0; entry 1 0 : -1");
        run("set: the first one named: the state", SINGLE + "set 3 0 3 : Index; set -1 0 -2 : Index");
        run("set: the first one named: the symbol", SINGLE + "set 0 10 3 : Index; set 0 -1 201 : Index");
        run("set: no automaton", "set 0 0 -1 : Index; set 0 0 777 : Index; rule A=a : 0; set 0 0 -1 : Index");
    }

    /** At a nonterminal, a terminal and $ alike: what is no entry, or of a state or rule that is not there. */
    private static void setEntries() {
        for (String symbol : new String[] {"A", "e", "$"}) {
            String at = "set 1 " + symbol + " ";
            String is = "entry 1 " + symbol + " : ";
            run("NONE and what is below",
                SINGLE + at + "-1 : ok; " + is + "-1; " + at + "-2 : Argument; " + at + SMALLEST + " : Argument; " + is + "-1");
            run("GO to the first state", SINGLE + at + "0 : ok; " + is + "0; " + at + "-2 : Argument; " + is + "0");
            run("GO to the last state", SINGLE + at + "2 : ok; " + is + "2; " + at + "3 : Argument; " + at + "49 : Argument; " + is + "2");
            run("neither GO nor REDUCE", SINGLE + at + "1 : ok; " + at + "50 : Argument; " + at + "99 : Argument; " + is + "1");
            run("REDUCE by rule 0", SINGLE + at + "100 : ok; " + is + "100; " + at + "99 : Argument; " + is + "100");
            run("REDUCE by the TOP", SINGLE + at + "101 : ok; " + is + "101; " + at + "102 : Argument; " + at + "108 : Argument; " + is + "101");
            run("ACCEPT",
                SINGLE + at + "200 : ok; " + is + "200; " + at + "199 : Argument; " + at + "201 : Argument; " + at + LARGEST + " : Argument; " + is + "200");
        }
        run("REDUCE by the last of 8 rules, and the TOP",
            "rule A=a : 0; rule B= : 1; rule B= : 2; rule B= : 3; rule B= : 4; rule B= : 5; rule B= : 6; rule B= : 7",
            "build : 3; set 0 e 107 : ok; set 0 e 108 : ok; entry 0 e : 108; set 0 e 109 : Argument; entry 0 e : 108");
        run("GO to the last of 50 states", "rule A=bAAb : 0; rule A=dadd : 1; rule A=adAc : 2; build : 50; set 49 e 49 : ok; entry 49 e : 49",
            "set 49 e 50 : Argument; set 49 e 99 : Argument; entry 49 e : 49");
        run("GO to a state that was there before",
            NESTED + "set 0 e 7 : ok; clear : ok; " + SINGLE + "set 0 e 3 : Argument; set 0 e 7 : Argument; set 0 e 2 : ok");
        run("REDUCE by a rule that was there before",
            NESTED + "set 0 e 102 : ok; clear : ok; " + SINGLE + "set 0 e 102 : Argument; set 0 e 101 : ok");
    }

    private static void setLeaves() {
        run("set() changes that entry alone",
            SINGLE + "set 1 e 2 : ok; entry 1 d : -1; entry 1 $ : 200; entry 0 e : -1; entry 2 e : -1; has 1 1 1 $ : 1");
        run("there is no parse then", SINGLE + "feed a : 1; parse 400 : 1; set 2 e -1 : ok; nodes : 0; depth : 0; node 0 0 : Index");
        run("there is no parse then: the same entry", SINGLE + "feed a : 1; parse 400 : 1; set 0 a 2 : ok; nodes : 0; depth : 0");
        run("there is no parse then: one of no steps", SINGLE + "parse 0 : 0; depth : 1; set 0 a 2 : ok; depth : 0");
        run("the input stays", SINGLE + "feed a : 1; set 0 a 2 : ok; parse 400 : 1; feed a : 2");
        run("the fault stays",
            SINGLE + "set 2 $ -1 : ok; " + look(8, "2 0 1 9") + "; set 2 $ 100 : ok; fault 0 : 2; fault 1 : 0; fault 2 : 1; fault 3 : 9");
        run("what throws leaves the parse: no place",
            SINGLE + "feed a : 1; parse 400 : 1; set 3 0 -1 : Index; set 0 10 -1 : Index; nodes : 2; depth : 2; node 0 2 : 1");
        run("what throws leaves the parse: no entry", SINGLE + "feed a : 1; parse 400 : 1; set 0 a 3 : Argument; nodes : 2; depth : 2; node 0 2 : 1");
        run("what throws leaves the entry", SINGLE + "set 0 a 3 : Argument; set 0 a 201 : Argument; entry 0 a : 2; check : 0");
    }

    /** has() and turn() have the same exceptions. */
    private static void items(String call) {
        String single = SINGLE + call;
        run(call + ": no such state: below", single + " -1 0 0 $ : Index; " + call + " " + SMALLEST + " 0 0 $ : Index; has 0 0 0 $ : 1");
        run(call + ": no such state: above",
            single + " 3 0 0 $ : Index; " + call + " 50 0 0 $ : Index; " + call + " " + LARGEST + " 0 0 $ : Index; has 2 0 1 $ : 1");
        run(call + ": no such rule: below", single + " 0 -1 0 $ : Argument; " + call + " 0 " + SMALLEST + " 0 $ : Argument; has 0 0 0 $ : 1");
        run(call + ": no such rule: above",
            single + " 0 2 0 $ : Argument; " + call + " 0 8 0 $ : Argument; " + call + " 0 " + LARGEST + " 0 $ : Argument; has 0 1 0 $ : 1");
        run(call + ": no such dot: below",
            single + " 1 0 -1 $ : Argument; " + call + " 1 1 -1 $ : Argument; " + call + " 1 0 " + SMALLEST + " $ : Argument; has 1 0 0 $ : 0");
        run(call + ": no such dot: above",
            single + " 1 0 2 $ : Argument; " + call + " 1 0 4 $ : Argument; " + call + " 1 0 " + LARGEST + " $ : Argument; has 1 0 1 $ : 0");
        run(call + ": no such dot of the TOP", single + " 1 1 2 $ : Argument; has 1 1 1 $ : 1");
        run(call + ": no such dot of an empty row",
            "rule A= : 0; build : 2; " + call + " 0 0 1 $ : Argument; " + call + " 0 0 -1 $ : Argument; has 0 0 0 $ : 1");
        run(call + ": no such dot of a row of 4", "rule A=abcd : 0; build : 6; " + call + " 5 0 5 $ : Argument; has 5 0 4 $ : 1; has 5 0 0 $ : 0");
        run(call + ": no such thing ahead: below",
            single + " 0 0 0 3 : Argument; " + call + " 0 0 0 0 : Argument; " + call + " 0 0 0 -1 : Argument; "
                + "" + call + " 0 0 0 " + SMALLEST + " : Argument; has 0 0 0 4 : 0");
        run(call + ": no such thing ahead: above", single + " 0 0 0 10 : Argument; " + call + " 0 0 0 " + LARGEST + " : Argument; has 0 0 0 9 : 1");
        run(call + ": the first one named", single + " 3 2 9 99 : Index; " + call + " -1 -1 -1 -1 : Index; " + call + " 3 0 0 3 : Index; check : 0");
        run(call + ": no automaton", call + " 0 0 0 $ : Index; rule A=a : 0; " + call + " 0 0 0 $ : Index; " + call + " 0 9 9 99 : Index");
        run(call + ": rule 7 and the TOP of 8",
            "rule A=a : 0; rule B= : 1; rule B= : 2; rule B= : 3; rule B= : 4; rule B= : 5; rule B= : 6; rule B=eeee : 7; build : 3",
            call + " 2 7 4 e : " + (call.equals("has") ? "0" : "1") + "; " + call + " 2 7 5 e : Argument; "
                + "" + call + " 2 8 1 e : " + (call.equals("has") ? "0" : "1"),
            call + " 2 8 2 e : Argument; " + call + " 2 9 0 e : Argument");
    }

    private static void has() {
        run("has: what the other states have does not count",
            SINGLE + "has 0 0 0 $ : 1; has 1 0 0 $ : 0; has 2 0 0 $ : 0; has 1 1 1 $ : 1; has 0 1 1 $ : 0; has 2 1 1 $ : 0");
        run("has: the first and the last thing ahead", LEFT_LIST + "has 0 0 0 4 : 1; has 0 0 0 5 : 0; has 0 0 0 8 : 0; has 0 0 0 9 : 1");
        run("has: an item asked for changes nothing",
            SINGLE + "feed a : 1; parse 400 : 1; has 0 0 0 $ : 1; has 0 0 0 e : 0; has 3 0 0 $ : Index; nodes : 2; depth : 2; check : 0");
        run("has: an item without its entry", SINGLE + "set 2 $ -1 : ok; has 2 0 1 $ : 1");
    }

    private static void turn() {
        run("turn: gets it, loses it, gets it",
            SINGLE + "has 2 0 0 4 : 0; turn 2 0 0 4 : 1; has 2 0 0 4 : 1; turn 2 0 0 4 : 0; has 2 0 0 4 : 0; turn 2 0 0 4 : 1; has 2 0 0 4 : 1");
        run("turn: loses it, gets it", SINGLE + "has 2 0 1 9 : 1; turn 2 0 1 9 : 0; has 2 0 1 9 : 0; turn 2 0 1 9 : 1; has 2 0 1 9 : 1; check : 0");
        run("turn: that item alone",
            SINGLE + "turn 1 0 0 6 : 1; has 1 0 0 5 : 0; has 1 0 0 7 : 0; has 1 0 1 6 : 0; has 1 1 0 6 : 0; has 0 0 0 6 : 0; has 2 0 0 6 : 0");
        run("turn: no entry changes", SINGLE + "turn 2 0 1 9 : 0; entry 2 9 : 100; turn 0 0 0 9 : 0; entry 0 4 : 2; states : 3");
        run("turn: the parse stays", SINGLE + "feed a : 1; parse 400 : 1; turn 2 0 1 9 : 0; nodes : 2; depth : 2; node 0 2 : 1");
        run("turn: the fault stays",
            SINGLE + "turn 2 0 0 4 : 1; " + look(4, "2 0 0 4") + "; turn 2 0 0 4 : 0; fault 0 : 2; fault 1 : 0; fault 2 : 0; fault 3 : 4");
        run("turn: what throws leaves the parse",
            SINGLE + "feed a : 1; parse 400 : 1; turn 3 0 0 9 : Index; turn 0 2 0 9 : Argument; nodes : 2; depth : 2");
    }

    private static void kindsInTheirOrder() {
        StringBuilder all = new StringBuilder();
        StringBuilder mended = new StringBuilder();
        for (int kind = 1; kind <= 8; kind++) {
            String found = look(kind, FOUND[kind - 1]);
            run("kind " + kind + " alone", NESTED + SPOIL[kind - 1] + "; " + found, MEND[kind - 1] + "; " + look(0, "-1 -1 -1 -1"));
            for (int later = kind + 1; later <= 8; later++) {
                run("kind " + kind + " before " + later, NESTED + SPOIL[later - 1] + "; " + look(later, FOUND[later - 1]), SPOIL[kind - 1] + "; " + found);
            }
            all.append(SPOIL[kind - 1]).append("; ");
            mended.append(found).append("; ").append(MEND[kind - 1]).append("; ");
        }
        run("all kinds, and each mended in its turn", NESTED + all + mended + look(0, "-1 -1 -1 -1"));
    }

    /** Each time one more is made before the one that is found. */
    private static void statesInTheirOrder() {
        run("1 by the states",
            NESTED + "turn 7 2 0 a : 1; " + look(1, "7 2 0 4") + "; turn 6 2 0 $ : 1; " + look(1, "6 2 0 9") + "; turn 1 2 0 $ : 1; " + look(1, "1 2 0 9"),
            "turn 0 2 1 $ : 1; " + look(1, "0 2 1 9"));
        run("2 by the states",
            NESTED + "set 7 A 5 : ok; " + look(2, "7 0 -1 -1") + "; set 6 $ 5 : ok; " + look(2, "6 9 -1 -1") + "; set 0 $ 5 : ok; " + look(2, "0 9 -1 -1"));
        run("3 by the states",
            NESTED + "set 7 A 100 : ok; " + look(3, "7 0 -1 -1") + "; set 6 $ 100 : ok; " + look(3, "6 9 -1 -1") + "; set 0 $ 200 : ok; "
                + "" + look(3, "0 9 -1 -1"));
        run("4 by the states",
            NESTED + "turn 7 0 0 a : 1; " + look(4, "7 0 0 4") + "; turn 6 1 0 $ : 1; " + look(4, "6 1 0 9") + "; set 0 A -1 : ok; " + look(4, "0 0 0 9"));
        run("6 by the states",
            NESTED + "turn 4 1 0 b : 0; set 4 b -1 : ok; " + look(6, "4 0 1 5") + "; turn 2 1 0 b : 0; set 2 b -1 : ok; " + look(6, "2 0 1 9"),
            "turn 0 1 0 $ : 0; set 0 $ -1 : ok; " + look(6, "0 2 0 9"));
        run("7 by the states",
            NESTED + "set 6 b -1 : ok; " + look(7, "6 0 2 5") + "; set 3 b -1 : ok; " + look(7, "3 0 2 9") + "; set 0 a -1 : ok; " + look(7, "0 0 0 9"));
        run("8 by the states",
            NESTED + "set 7 b -1 : ok; " + look(8, "7 0 3 5") + "; set 5 $ -1 : ok; " + look(8, "5 0 3 9") + "; set 1 $ -1 : ok; " + look(8, "1 2 1 9"),
            "set 0 $ -1 : ok; " + look(8, "0 1 0 9"));
    }

    private static void itemsInTheirOrder() {
        run("1 by rule, dot, ahead",
            LEFT_LIST + "turn 0 2 1 a : 1; " + look(1, "0 2 1 4") + "; turn 0 1 1 $ : 1; " + look(1, "0 1 1 9") + "; turn 0 0 2 $ : 1; " + look(1, "0 0 2 9"),
            "turn 0 0 1 $ : 1; " + look(1, "0 0 1 9") + "; turn 0 0 1 e : 1; " + look(1, "0 0 1 8") + "; turn 0 0 1 a : 1; " + look(1, "0 0 1 4"));
        run("2 by the symbols",
            NESTED + "set 3 $ 5 : ok; " + look(2, "3 9 -1 -1") + "; set 3 e 5 : ok; " + look(2, "3 8 -1 -1") + "; set 3 a 5 : ok; " + look(2, "3 4 -1 -1"),
            "set 3 D 5 : ok; " + look(2, "3 3 -1 -1") + "; set 3 A 5 : ok; " + look(2, "3 0 -1 -1"));
        run("3 by the symbols",
            NESTED + "set 3 $ 200 : ok; " + look(3, "3 9 -1 -1") + "; set 3 e 100 : ok; " + look(3, "3 8 -1 -1") + "; set 3 a 200 : ok; "
                + "" + look(3, "3 4 -1 -1"),
            "set 3 D 102 : ok; " + look(3, "3 3 -1 -1") + "; set 3 A 0 : ok; " + look(3, "3 0 -1 -1"));
        run("4 by rule, ahead",
            NESTED + "turn 3 1 0 $ : 1; " + look(4, "3 1 0 9") + "; turn 3 1 0 a : 1; " + look(4, "3 1 0 4") + "; turn 3 0 0 $ : 1; " + look(4, "3 0 0 9"),
            "turn 3 0 0 b : 1; " + look(4, "3 0 0 5"));
        run("6 by rule, ahead", LEFT_LIST + "turn 0 1 0 $ : 0; turn 2 1 1 $ : 0; set 2 $ -1 : ok; " + look(6, "0 2 0 9"),
            "turn 0 1 0 a : 0; turn 2 1 1 a : 0; set 2 a -1 : ok; " + look(6, "0 0 0 4"));
        run("6 by rule, ahead: an earlier one is gone", LEFT_LIST + "turn 0 1 0 a : 0; turn 2 1 1 a : 0; set 2 a -1 : ok; " + look(6, "0 0 0 4"),
            "turn 0 0 0 a : 0; turn 1 0 1 a : 0; turn 3 0 2 a : 0; set 3 a -1 : ok; " + look(6, "0 0 0 9"));
        run("7 by dot", NESTED + "turn 6 0 2 b : 0; set 6 b -1 : ok; " + look(7, "4 0 1 5") + "; set 4 a -1 : ok; " + look(7, "4 0 0 5"));
        run("7 by rule, ahead", LEFT_LIST + "set 0 a -1 : ok; " + look(7, "0 1 0 4"));
        run("7 by rule",
            LEFT_LIST + "set 0 a -1 : ok; " + look(7, "0 1 0 4") + "; turn 1 0 1 $ : 0; turn 3 0 2 $ : 0; set 3 $ -1 : ok; " + look(7, "0 0 0 9"));
        run("8 by ahead", LEFT_LIST + "set 2 $ -1 : ok; " + look(8, "2 1 1 9") + "; set 2 a -1 : ok; " + look(8, "2 1 1 4"));
        run("8 by rule",
            "rule A=Bd : 0; rule A=Ce : 1; rule B=b : 2; rule C=b : 3; build : 7; set 4 e -1 : ok; " + look(8, "4 3 1 8") + "; set 4 d -1 : ok; "
                + "" + look(8, "4 2 1 7"));
    }

    private static void unfounded() {
        run("an item of state 0 with a dot above 0", SINGLE + "turn 0 0 1 $ : 1; " + look(1, "0 0 1 9"));
        run("an item of state 0 with a dot above 0: the TOP's", SINGLE + "turn 0 1 1 $ : 1; " + look(1, "0 1 1 9"));
        run("an item of state 0 with a dot above 0: the last", "rule A=abcd : 0; build : 6; turn 0 0 4 e : 1; " + look(1, "0 0 4 8"));
        run("but dot 0", SINGLE + "turn 0 0 0 a : 1; turn 2 0 1 a : 1; set 2 a 100 : ok; check : 0");
        run("but in another state", LEFT_LIST + "has 3 0 2 $ : 1; has 1 2 1 $ : 1; check : 0");
        run("one of the TOP with dot 0 in another state: 1", SINGLE + "turn 1 1 0 a : 1; " + look(1, "1 1 0 4"));
        run("one of the TOP with dot 0 in another state: the last", SINGLE + "turn 2 1 0 $ : 1; " + look(1, "2 1 0 9"));
        run("but in state 0, with anything ahead", LEFT_LIST + "turn 0 2 0 a : 1; " + look(7, "0 2 0 4"));
        run("but dot 1 of the TOP", SINGLE + "turn 2 1 1 a : 1; " + look(2, "0 4 -1 -1"));
        run("but one of another rule", SINGLE + "turn 2 0 0 $ : 1; " + look(4, "2 0 0 9"));
    }

    private static void foreign() {
        run("the symbol before its dot is another one", LEFT_LIST + "set 0 b 2 : ok; " + look(2, "0 5 -1 -1"));
        run("the symbol before its dot is another one: a nonterminal", LEFT_LIST + "set 0 B 1 : ok; " + look(2, "0 1 -1 -1"));
        run("the symbol before its dot is another one: $", LEFT_LIST + "set 0 $ 2 : ok; " + look(2, "0 9 -1 -1"));
        run("the symbol before its dot, not the next", LEFT_LIST + "set 0 a 1 : ok; " + look(2, "0 4 -1 -1"));
        run("the first state has not the item", LEFT_LIST + "set 2 a 3 : ok; " + look(2, "2 4 -1 -1"));
        run("the first state has not the item: with that ahead", LEFT_LIST + "turn 2 1 1 e : 1; " + look(2, "0 4 -1 -1"));
        run("the first state has not the item: with that dot", "rule A=aaa : 0; build : 5; set 2 a 4 : ok; " + look(2, "2 4 -1 -1"));
        run("the first state has it no more", SINGLE + "turn 0 0 0 $ : 0; " + look(2, "0 4 -1 -1"));
        run("the first state has it no more: the TOP's", SINGLE + "turn 0 1 0 $ : 0; " + look(2, "0 0 -1 -1"));
        run("one of many items is enough", LEFT_LIST + "turn 0 0 0 $ : 0; " + look(2, "0 0 -1 -1"));
        run("by the states and symbols from which it GOes, not by those to which",
            NESTED + "turn 4 0 2 b : 1; " + look(2, "2 4 -1 -1") + "; set 2 a -1 : ok; " + look(2, "4 4 -1 -1"));
        run("but an item with dot 0", NESTED + "turn 5 1 0 a : 1; " + look(4, "5 1 0 4"));
        run("but a REDUCE", SINGLE + "set 1 a 101 : ok; " + look(3, "1 4 -1 -1"));
        run("but where no entry GOes to it", SINGLE + "set 0 a -1 : ok; turn 2 0 1 a : 1; " + look(7, "0 0 0 9"));
        run("but a GO to a state with no dot above 0: state 0", SINGLE + "set 1 e 0 : ok; " + look(3, "1 8 -1 -1"));
        run("but a GO to a state with no item", SINGLE + "turn 2 0 1 $ : 0; set 2 $ -1 : ok; set 1 e 2 : ok; " + look(7, "0 0 0 9"));
        run("from itself", SINGLE + "set 2 a 2 : ok; " + look(2, "2 4 -1 -1"));
    }

    private static void boldReduce() {
        run("no item of that rule with that ahead: a terminal", SINGLE + "set 2 a 100 : ok; " + look(3, "2 4 -1 -1"));
        run("no item of that rule with that ahead: the last terminal", SINGLE + "set 2 e 100 : ok; " + look(3, "2 8 -1 -1"));
        run("no item of that rule with that ahead: $", LEFT_LIST + "turn 2 1 1 $ : 0; " + look(3, "2 9 -1 -1"));
        run("no item of that rule", LEFT_LIST + "set 2 $ 100 : ok; " + look(3, "2 9 -1 -1"));
        run("its dot is not at the end", LEFT_LIST + "set 1 a 100 : ok; " + look(3, "1 4 -1 -1"));
        run("its dot is not at the end: 0", SINGLE + "set 0 $ 100 : ok; " + look(3, "0 9 -1 -1"));
        run("the dot of an empty row is", NESTED + "entry 0 $ : 101; check : 0; set 0 b 101 : ok; " + look(3, "0 5 -1 -1"));
        run("but with that item", LEFT_LIST + "turn 2 1 1 e : 1; turn 0 1 0 e : 1; set 2 e 101 : ok; check : 0");
        run("REDUCE by the TOP without its item", SINGLE + "set 2 $ 101 : ok; " + look(3, "2 9 -1 -1"));
        run("REDUCE by the TOP with its dot too early", SINGLE + "set 0 $ 101 : ok; " + look(3, "0 9 -1 -1"));
        run("REDUCE by the TOP with its item is not BOLD", SINGLE + "set 1 $ 101 : ok; " + look(8, "1 1 1 9"));
        run("at a nonterminal: the first and the last",
            SINGLE + "set 2 D 100 : ok; " + look(3, "2 3 -1 -1") + "; set 2 A 100 : ok; " + look(3, "2 0 -1 -1"));
        run("at a nonterminal: by the TOP", SINGLE + "set 1 A 101 : ok; " + look(3, "1 0 -1 -1"));
        run("at a nonterminal: where the nonterminal has to GO", SINGLE + "set 0 A 100 : ok; " + look(3, "0 0 -1 -1"));
    }

    private static void boldAccept() {
        run("ACCEPT without that item", SINGLE + "set 2 $ 200 : ok; " + look(3, "2 9 -1 -1"));
        run("ACCEPT without that item: its dot too early", SINGLE + "set 0 $ 200 : ok; " + look(3, "0 9 -1 -1"));
        run("ACCEPT without that item: another one ahead", SINGLE + "turn 1 1 1 $ : 0; turn 1 1 1 a : 1; turn 0 1 0 a : 1; " + look(3, "1 9 -1 -1"));
        run("ACCEPT without that item: it is gone", SINGLE + "turn 1 1 1 $ : 0; " + look(3, "1 9 -1 -1"));
        run("ACCEPT with that item", SINGLE + "entry 1 $ : 200; check : 0");
        run("ACCEPT at another symbol: the first terminal", SINGLE + "set 1 a 200 : ok; " + look(3, "1 4 -1 -1"));
        run("ACCEPT at another symbol: the last terminal", SINGLE + "set 1 e 200 : ok; " + look(3, "1 8 -1 -1"));
        run("ACCEPT at another symbol: with the TOP's item for it",
            SINGLE + "turn 0 1 0 e : 1; turn 1 1 1 e : 1; set 1 e 200 : ok; " + look(3, "1 8 -1 -1"));
        run("ACCEPT at a nonterminal", SINGLE + "set 1 D 200 : ok; " + look(3, "1 3 -1 -1") + "; set 1 A 200 : ok; " + look(3, "1 0 -1 -1"));
    }

    private static void boldGo() {
        String spare = SINGLE + "turn 2 0 1 $ : 0; set 2 $ -1 : ok; ";
        run("GO at $", spare + "set 1 $ 2 : ok; " + look(3, "1 9 -1 -1"));
        run("GO at $: in state 0", spare + "set 0 $ 2 : ok; " + look(3, "0 9 -1 -1"));
        run("but GO at a terminal", spare + "set 1 e 2 : ok; " + look(7, "0 0 0 9"));
        run("but GO at a nonterminal", spare + "set 1 D 2 : ok; " + look(7, "0 0 0 9"));
        run("GO to state 0: at a terminal", SINGLE + "set 2 a 0 : ok; " + look(3, "2 4 -1 -1"));
        run("GO to state 0: at a nonterminal", SINGLE + "set 2 D 0 : ok; " + look(3, "2 3 -1 -1"));
        run("GO to state 0: at $", SINGLE + "set 2 $ 0 : ok; " + look(3, "2 9 -1 -1"));
        run("GO to state 0: from state 0", SINGLE + "set 0 b 0 : ok; " + look(3, "0 5 -1 -1"));
        run("GO to state 0: for the start", SINGLE + "set 0 A 0 : ok; " + look(3, "0 0 -1 -1"));
        run("but GO to state 1 and to the last one", SINGLE + "entry 0 A : 1; entry 0 a : 2; check : 0");
        run("but NONE", SINGLE + "set 2 A -1 : ok; set 2 e -1 : ok; set 0 $ -1 : ok; check : 0");
    }

    private static void homeless() {
        run("an item with dot 0, and NONE", SINGLE + "set 0 A -1 : ok; " + look(4, "0 0 0 9"));
        run("an item with dot 0, and NONE, in the last state", NESTED + "turn 7 1 0 $ : 1; " + look(4, "7 1 0 9"));
        run("an item with dot 0 of an empty row", "rule A= : 0; build : 2; set 0 A -1 : ok; " + look(4, "0 0 0 9"));
        run("the rule's nonterminal, not another one", "rule A=aD : 0; rule D=d : 1; build : 5; entry 0 D : -1; entry 2 A : -1; check : 0");
        run("the rule's nonterminal: the last", "rule A=Da : 0; rule D=d : 1; build : 5; set 0 D -1 : ok; " + look(4, "0 1 0 4"));
        run("but the TOP's item with dot 0", SINGLE + "turn 0 0 0 $ : 0; turn 2 0 1 $ : 0; set 2 $ -1 : ok; set 0 A -1 : ok; " + look(6, "0 1 0 9"));
        run("but an item with dot 1", LEFT_LIST + "entry 2 A : -1; has 2 1 1 a : 1; check : 0");
        run("but with a GO to anywhere that is not FOREIGN or BOLD",
            NESTED + "turn 7 0 3 b : 0; set 7 b -1 : ok; set 5 A 7 : ok; turn 5 1 0 $ : 1; " + look(7, "6 0 2 5"));
    }

    private static void rootless() {
        String gone = SINGLE + "turn 0 1 0 $ : 0; turn 1 1 1 $ : 0; set 1 $ -1 : ok; ";
        run("state 0 has not the item of the TOP", gone + look(5, "0 -1 -1 -1"));
        run("with something else ahead", gone + "turn 0 1 0 e : 1; " + look(5, "0 -1 -1 -1"));
        run("with everything else ahead",
            gone + "turn 0 1 0 a : 1; turn 0 1 0 b : 1; turn 0 1 0 c : 1; turn 0 1 0 d : 1; turn 0 1 0 e : 1; " + look(5, "0 -1 -1 -1"));
        run("without any item and entry",
            SINGLE + "turn 0 0 0 $ : 0; turn 0 1 0 $ : 0; turn 1 1 1 $ : 0; turn 2 0 1 $ : 0; set 0 A -1 : ok; set 0 a -1 : ok; set 1 $ -1 : ok; "
                + "set 2 $ -1 : ok",
            look(5, "0 -1 -1 -1"));
        run("but with that item", gone + "turn 0 1 0 $ : 1; " + look(7, "0 1 0 9"));
    }

    private static void open() {
        String two = "rule A=CB : 0; rule C=c : 1; rule B=b : 2; rule B= : 3; build : 6; ";
        run("what is asked for: state 0", two + "entry 0 c : 3; has 0 1 0 b : 1; has 0 1 0 $ : 1; check : 0");
        run("what is asked for by FIRST", two + "turn 0 1 0 b : 0; turn 3 1 1 b : 0; set 3 b -1 : ok; " + look(6, "0 0 0 9"));
        run("what is asked for by what the item has ahead", two + "turn 0 1 0 $ : 0; turn 3 1 1 $ : 0; set 3 $ -1 : ok; " + look(6, "0 0 0 9"));
        run("all rules of the nonterminal: the first",
            two + "entry 2 b : 5; turn 2 2 0 $ : 0; turn 5 2 1 $ : 0; set 5 $ -1 : ok; " + look(6, "2 0 1 9"));
        run("all rules of the nonterminal: the last", two + "turn 2 3 0 $ : 0; set 2 $ -1 : ok; " + look(6, "2 0 1 9"));
        run("not what FIRST has not", two + "has 2 2 0 b : 0; has 0 1 0 a : 0; check : 0");
        run("more than is asked for is no fault", two + "turn 0 1 0 e : 1; turn 3 1 1 e : 1; set 3 e 101 : ok; check : 0");
        run("not for a terminal", "rule A=ab : 0; build : 4; check : 0");
        run("not behind the end", SINGLE + "has 2 0 1 $ : 1; has 2 0 0 $ : 0; check : 0");
        run("not for a nonterminal without a rule", "rule A=aB : 0; build : 4; check : 0");
        run("not where FIRST has nothing", "rule A=CBd : 0; rule C=c : 1; build : 5; has 0 1 0 d : 0; check : 0");
        run("the item that asks, not the one that is missing",
            LEFT_LIST + "turn 0 1 0 $ : 0; turn 2 1 1 $ : 0; set 2 $ -1 : ok; " + look(6, "0 2 0 9"));
        run("by the TOP with another one ahead", SINGLE + "turn 0 1 0 e : 1; " + look(6, "0 1 0 8"));
        run("in the last state", "rule A=aB : 0; rule B=C : 1; rule C= : 2; build : 5; turn 2 2 0 $ : 0; set 2 $ -1 : ok; " + look(6, "2 1 0 9"));
    }

    private static void lazy() {
        String choice = "rule A=a : 0; rule A= : 1; build : 3; ";
        run("its entry is NONE", SINGLE + "set 0 a -1 : ok; " + look(7, "0 0 0 9"));
        run("its entry is REDUCE", choice + "turn 0 1 0 a : 1; set 0 a 101 : ok; " + look(7, "0 0 0 9"));
        run("GO to a state without that item", SINGLE + "turn 2 0 1 $ : 0; set 2 $ -1 : ok; " + look(7, "0 0 0 9"));
        run("GO to a state without that item: the TOP's", SINGLE + "turn 1 1 1 $ : 0; set 1 $ -1 : ok; " + look(7, "0 1 0 9"));
        run("GO to a state with it, but another one ahead", SINGLE + "turn 0 0 0 e : 1; " + look(7, "0 0 0 8"));
        run("in the last but one place of a row of 4", "rule A=abcd : 0; build : 6; set 4 d -1 : ok; " + look(7, "4 0 3 9"));
        run("but at the end of a row of 4", "rule A=abcd : 0; build : 6; has 5 0 4 $ : 1; entry 5 d : -1; check : 0");
        run("but a state with more items", LEFT_LIST + "turn 0 1 0 e : 1; turn 2 1 1 e : 1; set 2 e 101 : ok; check : 0");
        run("a nonterminal that has no rule", "rule A=aB : 0; build : 4; set 2 B -1 : ok; " + look(7, "2 0 1 9"));
    }

    private static void shy() {
        String choice = "rule A=a : 0; rule A= : 1; build : 3; ";
        run("the entry is NONE", SINGLE + "set 2 $ -1 : ok; " + look(8, "2 0 1 9"));
        run("the entry is NONE: an empty row", choice + "set 0 $ -1 : ok; " + look(8, "0 1 0 9"));
        run("the entry is GO", choice + "turn 0 1 0 a : 1; " + look(8, "0 1 0 4"));
        run("the entry is REDUCE by another rule",
            "rule A=Bd : 0; rule A=Ce : 1; rule B=b : 2; rule C=b : 3; build : 7; turn 0 3 0 d : 1; turn 4 3 1 d : 1; " + look(8, "4 3 1 7"),
            "set 4 d 103 : ok; " + look(8, "4 2 1 7"));
        run("the TOP's entry is NONE", SINGLE + "set 1 $ -1 : ok; " + look(8, "1 1 1 9"));
        run("the TOP's entry is REDUCE", SINGLE + "set 1 $ 101 : ok; " + look(8, "1 1 1 9"));
        String aside = SINGLE + "turn 0 1 0 e : 1; turn 0 0 0 e : 1; turn 1 1 1 e : 1; turn 2 0 1 e : 1; set 2 e 100 : ok; ";
        run("the TOP with another one ahead: NONE", aside + look(8, "1 1 1 8"));
        run("the TOP with another one ahead: REDUCE", aside + "set 1 e 101 : ok; " + look(8, "1 1 1 8"));
        run("the TOP with another one ahead: ACCEPT is BOLD", aside + "set 1 e 200 : ok; " + look(3, "1 8 -1 -1"));
        run("each thing ahead", LEFT_LIST + "set 3 a -1 : ok; " + look(8, "3 0 2 4") + "; set 3 a 100 : ok; set 3 $ -1 : ok; " + look(8, "3 0 2 9"));
        run("but an item with a next", LEFT_LIST + "has 1 0 1 $ : 1; entry 1 $ : 200; check : 0");
    }

    private static void check() {
        run("IllegalStateException if there is none", "check : State; rule A=a : 0; check : State; build : 3; check : 0");
        run("IllegalStateException if there is none any more: clear()", SINGLE + "check : 0; clear : ok; check : State");
        run("IllegalStateException if there is none any more: rule()", SINGLE + "check : 0; rule B= : 1; check : State");
        run("IllegalStateException if there is none any more: build()",
            SINGLE + "check : 0; rule A=a : 1; build : Unsupported; check : State; fault 0 : -1; states : 0");
        run("check() changes nothing",
            SINGLE + "set 2 $ -1 : ok; feed a : 1; parse 400 : 2; check : 8; check : 8; nodes : 1; depth : 2; entry 2 $ : -1; has 2 0 1 $ : 1; feed a : 2");
        run("no state of an earlier automaton is looked at", NESTED + "set 7 C 200 : ok; check : 3; clear : ok; " + SINGLE + "check : 0");
    }

    private static void fault() {
        String shy = SINGLE + "set 2 $ -1 : ok; check : 8; ";
        run("no such what: below", shy + "fault 0 : 2; fault -1 : -1; fault " + SMALLEST + " : -1; fault 0 : 2");
        run("no such what: above", shy + "fault 3 : 9; fault 4 : -1; fault " + LARGEST + " : -1; fault 3 : 9");
        run("-1 if there was none", SINGLE + "check : 0; fault 0 : -1; fault 1 : -1; fault 2 : -1; fault 3 : -1");
        run("-1 if there was none in the latest", shy + "set 2 $ 100 : ok; check : 0; fault 0 : -1; fault 1 : -1; fault 2 : -1; fault 3 : -1");
        run("no check() yet", SINGLE + "set 2 $ -1 : ok; fault 0 : -1; fault 1 : -1; fault 2 : -1; fault 3 : -1");
        run("no check() since the latest rule()",
            shy + "rule B= : 1; fault 0 : -1; fault 1 : -1; fault 2 : -1; fault 3 : -1; build : 3; fault 0 : -1; check : 0");
        run("no check() since the latest clear()",
            shy + "clear : ok; fault 0 : -1; fault 1 : -1; fault 2 : -1; fault 3 : -1; " + SINGLE + "fault 0 : -1");
        run("no check() since the latest build()", shy + "build : 3; fault 0 : -1; fault 1 : -1; fault 2 : -1; fault 3 : -1");
        run("for 2, 3 the symbol, and then -1", SINGLE + "set 0 b 2 : ok; " + look(2, "0 5 -1 -1") + "; set 0 b 200 : ok; " + look(3, "0 5 -1 -1"));
        run("for 2, 3 -1 also behind another fault", shy + "fault 2 : 1; fault 3 : 9; set 0 b 2 : ok; " + look(2, "0 5 -1 -1"));
        run("all -1 but the state for 5, also behind another fault",
            shy + "turn 0 1 0 $ : 0; turn 1 1 1 $ : 0; set 1 $ -1 : ok; " + look(5, "0 -1 -1 -1"));
    }

    private static void faultIsKept() {
        String shy = SINGLE + "set 2 $ -1 : ok; check : 8; ";
        String kept = "fault 0 : 2; fault 1 : 0; fault 2 : 1; fault 3 : 9";
        run("a rule() that did nothing: Argument", shy + "rule 20 : Argument; rule 292 : Argument; " + kept);
        run("a rule() that did nothing: State",
            "rule A=a : 0; rule B= : 1; rule B= : 2; rule B= : 3; rule B= : 4; rule B= : 5; rule B= : 6; rule B= : 7; build : 3",
            "set 2 $ -1 : ok; check : 8; rule B= : State; " + kept);
        run("set()", shy + "set 2 $ 100 : ok; " + kept);
        run("turn()", shy + "turn 2 0 1 $ : 0; " + kept);
        run("feed(), empty() and parse()", shy + "feed a : 1; parse 400 : 2; empty : ok; parse 0 : 0; " + kept);
        run("what throws",
            shy + "set 3 0 0 : Index; set 0 0 3 : Argument; turn 3 0 0 $ : Index; turn 0 2 0 $ : Argument; parse 401 : Argument; node 0 0 : Index; "
                + "entry 3 0 : Index; " + kept);
    }
}
