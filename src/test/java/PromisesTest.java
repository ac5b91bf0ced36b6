/** Each promise of the document: ordinary inputs, the edges that it names, and wrong inputs. */
public final class PromisesTest {
    private static final Runs RUNS = new Runs();

    private static final String NESTED = "rule A=aAb : 0; rule A= : 1; build : 8";
    private static final String SINGLE = "rule A=a : 0; build : 3";
    private static final String LEFT_LIST = "rule A=Aa : 0; rule A=a : 1; build : 4";

    private PromisesTest() {
    }

    private static void run(String title, String... script) {
        RUNS.run(title, script);
    }

    public static void main(String[] arguments) {
        promise1();
        promise2();
        promise3();
        promise4();
        promise4Aheads();
        promise4Limits();
        promise5();
        promise6();
        promise7();
        promise8();
        promise9();
        promise10();
        promise10Order();
        promise10Bold();
        promise11();
        promise12();
        promise13();
        promise14();
        promise14Internal();
        promise14NoRoom();
        promise15();
        promise16();
        promise17();
        System.exit(RUNS.finish());
    }

    private static void promise1() {
        run("1 no rules", "build : State; rule A= : 0");
        run("1 no automaton", "states : 0; entry 0 0 : Index; set 0 0 -1 : Index; has 0 0 0 $ : Index; turn 0 0 0 $ : Index",
            "check : State; parse 0 : State; fault 0 : -1; fault 1 : -1; fault 2 : -1; fault 3 : -1");
        run("1 no input", "feed a : 1");
        run("1 no parse", "nodes : 0; depth : 0; node 0 0 : Index");
    }

    private static void promise2() {
        run("2 numbers", "rule A=aAb : 0; rule A= : 1; rule B=eeee : 2; rule C=D : 3; rule D=ABCD : 4",
            "rule 0 : 5; rule 3 : 6; rule 132 : 7; rule 0 : State");
        run("2 a rule like another one is one more", "rule A=a : 0; rule A=a : 1; build : Unsupported");
        run("2 length", "rule 20 : Argument; rule 24 : Argument; rule 28 : Argument; rule -1 : Argument; build : State");
        run("2 symbols", "rule 292 : Argument; rule 484 : Argument; rule 4740 : 0; rule 260 : 1; rule 4648 : Argument",
            "rule 1179792 : Argument; rule 1048720 : 2");
        run("2 what is behind the row does not count", "rule 480 : 0; rule -31 : 1; rule -2147483516 : 2; build : 3",
            "entry 0 a : 2; entry 0 B : -1");
        run("2 the argument first", "rule A= : 0; rule A= : 1; rule A= : 2; rule A= : 3; rule A= : 4; rule A= : 5; rule A= : 6",
            "rule 20 : Argument; rule 292 : Argument; rule A= : 7; rule 20 : Argument; rule 292 : Argument; rule A= : State");
        run("2 no automaton and no parse then", SINGLE + "; feed a : 1; parse 400 : 1; nodes : 2; rule B= : 1",
            "states : 0; check : State; parse 1 : State; nodes : 0; depth : 0; node 0 0 : Index; build : 3; parse 400 : 1");
        run("2 a wrong one leaves all", SINGLE + "; feed a : 1; parse 400 : 1; set 0 A -1 : ok; check : 4; parse 400 : 3",
            "rule 20 : Argument; rule 292 : Argument; states : 3; nodes : 2; depth : 1; fault 0 : 0; check : 4; build : 3");
        run("2 a full one leaves all", "rule A=a : 0; rule B= : 1; rule B= : 2; rule B= : 3; rule B= : 4; rule B= : 5",
            "rule B= : 6; rule B= : 7; build : 3; feed a : 1; set 1 $ -1 : ok; check : 8; parse 400 : 2; rule B= : State",
            "states : 3; nodes : 2; depth : 2; fault 0 : 1; fault 1 : 8; fault 2 : 1; fault 3 : 9");
        run("2 the start is rule 0's", "rule C=a : 0; rule A=b : 1; build : 3; entry 0 C : 1; entry 0 A : -1; entry 0 b : -1");
    }

    private static void promise3() {
        run("3 all is gone but the input", SINGLE + "; feed a : 1; parse 400 : 1; set 0 A -1 : ok; check : 4; parse 400 : 3",
            "clear : ok; states : 0; nodes : 0; depth : 0; fault 0 : -1; build : State; check : State; parse 0 : State",
            "rule B=a : 0; build : 3; entry 0 B : 1; entry 0 A : -1; parse 400 : 1; feed a : 2");
        run("3 of nothing", "clear : ok; clear : ok; rule A= : 0; build : 2");
        run("3 room again", "rule A= : 0; rule A= : 1; rule A= : 2; rule A= : 3; rule A= : 4; rule A= : 5; rule A= : 6",
            "rule A= : 7; clear : ok; rule A= : 0; rule B= : 1; build : 2");
    }

    private static void promise4() {
        run("4 the states in their order", NESTED + "; entry 0 A : 1; entry 0 a : 2; entry 2 A : 3; entry 2 a : 4; entry 3 b : 5",
            "entry 4 A : 6; entry 4 a : 4; entry 6 b : 7; entry 0 $ : 101; entry 1 $ : 200; entry 2 b : 101; entry 4 b : 101",
            "entry 5 $ : 100; entry 7 b : 100; entry 5 b : -1; entry 7 $ : -1; entry 0 b : -1; entry 2 $ : -1");
        run("4 nonterminals before terminals", "rule A=bC : 0; rule A=CB : 1; rule C=a : 2; rule B=d : 3; build : 9",
            "entry 0 A : 1; entry 0 C : 2; entry 0 a : 3; entry 0 b : 4; entry 2 B : 5; entry 2 d : 6");
        run("4 an empty row", "rule D= : 0; build : 2; entry 0 D : 1; entry 0 $ : 100; entry 1 $ : 200");
        run("4 what is ahead goes through nullable ones", "rule A=aBCe : 0; rule B= : 1; rule C=c : 2; rule C= : 3; build : 7",
            "has 2 1 0 c : 1; has 2 1 0 e : 1; has 2 1 0 $ : 0; has 2 1 0 b : 0; has 3 3 0 e : 1; has 3 3 0 c : 0; check : 0");
        run("4 a nullable nonterminal by others", "rule A=BaBb : 0; rule A=CbCa : 1; rule B=D : 2; rule C= : 3; rule D= : 4",
            "build : 12; entry 0 a : 104; entry 0 b : 103; check : 0");
        run("4 canonical, not merged", "rule A=BB : 0; rule B=aB : 1; rule B=b : 2; build : 10; check : 0");
        run("4 LR(1), not LALR(1)", "rule A=aBd : 0; rule A=bCd : 1; rule A=aCe : 2; rule A=bBe : 3; rule B=c : 4; rule C=c : 5",
            "build : 14; check : 0");
        run("4 a nonterminal without a rule", "rule A=aB : 0; build : 4; entry 2 B : 3; entry 3 $ : 100; check : 0");
        run("4 a first one before a nonterminal without a rule", "rule A=BC : 0; rule B=b : 1; rule C=cD : 2; build : 7",
            "has 0 1 0 c : 1; entry 3 c : 101; check : 0");
        run("4 it makes anew what was changed", SINGLE + "; set 0 a -1 : ok; turn 0 0 0 $ : 0; build : 3; entry 0 a : 2",
            "has 0 0 0 $ : 1; check : 0");
        run("4 no parse then, but the input", SINGLE + "; feed a : 1; parse 400 : 1; build : 3; nodes : 0; depth : 0",
            "node 0 0 : Index; parse 400 : 1");
        run("4 8 rules and a nullable start", "rule A= : 0; rule A=aBBB : 1; rule B=b : 2; rule B=cC : 3; rule C= : 4; rule C=d : 5",
            "rule D= : 6; rule D=AAAA : 7; build : 14; entry 0 $ : 100; entry 1 $ : 200; has 0 8 0 $ : 1; has 1 8 1 $ : 1; check : 0");
        run("4 no rules", "build : State; states : 0; rule A= : 0; clear : ok; build : State");
    }

    private static void promise4Aheads() {
        run("4 nullable through a chain that stands in the slowest order", "rule A=aDAb : 0; rule A=B : 1; rule B=C : 2; rule C=D : 3",
            "rule D= : 4; build : 16; entry 0 a : 5; has 5 4 0 a : 1; has 5 4 0 b : 1; has 5 4 0 e : 0; has 5 4 0 $ : 0; check : 0");
        run("4 first through such a chain", "rule A=aDAb : 0; rule A=B : 1; rule B=C : 2; rule C=D : 3; rule D=e : 4; build : 19",
            "entry 0 a : 5; has 5 4 0 a : 1; has 5 4 0 e : 1; has 5 4 0 b : 0; has 5 4 0 $ : 0; check : 0");
        run("4 nullable by rule 0", "rule A= : 0; rule A=cBAd : 1; rule B=b : 2; build : 11; has 2 2 0 c : 1; has 2 2 0 d : 1; has 2 2 0 $ : 0");
        run("4 not nullable by what is behind a terminal", "rule A=CBd : 0; rule B=aD : 1; rule C=c : 2; rule D= : 3; build : 8",
            "has 0 2 0 a : 1; has 0 2 0 d : 0; has 0 2 0 $ : 0");
        run("4 first of several nullable ones", "rule A=BCDe : 0; rule B=b : 1; rule C=c : 2; rule C= : 3; rule D=d : 4; rule D= : 5",
            "build : 9; has 0 1 0 c : 1; has 0 1 0 d : 1; has 0 1 0 e : 1; has 0 1 0 b : 0; has 0 1 0 $ : 0; check : 0");
        run("4 closed through rules that stand before those that ask", "rule D=Ca : 0; rule A=b : 1; rule B=A : 2; rule C=B : 3",
            "build : 7; has 0 1 0 a : 1; has 0 2 0 a : 1; has 0 3 0 a : 1; has 0 1 0 $ : 0; check : 0");
        run("4 nothing known of an earlier grammar", "rule A=CBd : 0; rule B= : 1; rule C=c : 2; rule B=b : 3; build : 7; has 0 2 0 d : 1",
            "has 0 2 0 b : 1; clear : ok; rule A=CBd : 0; rule B=a : 1; rule C=c : 2; build : 7; has 0 2 0 d : 0; has 0 2 0 b : 0; has 0 2 0 a : 1",
            "clear : ok; rule D=CAd : 0; rule A= : 1; rule C=c : 2; rule A=b : 3; build : 7; has 0 2 0 d : 1; has 0 2 0 b : 1",
            "clear : ok; rule D=CAd : 0; rule A=a : 1; rule C=c : 2; build : 7; has 0 2 0 d : 0; has 0 2 0 b : 0; has 0 2 0 a : 1");
    }

    private static void promise4Limits() {
        run("4 reduce or reduce", "rule A=B : 0; rule A=C : 1; rule B=a : 2; rule C=a : 3; build : Unsupported; states : 0");
        run("4 reduce or go", "rule A=AA : 0; rule A=a : 1; build : Unsupported; states : 0; check : State; parse 1 : State");
        run("4 dangling else", "rule A=aAbA : 0; rule A=aA : 1; rule A=c : 2; build : Unsupported");
        run("4 accept or reduce", "rule A=A : 0; build : Unsupported; depth : 0; nodes : 0; fault 0 : -1");
        run("4 a conflict that no input comes to", "rule A=aBB : 0; rule B=B : 1; build : Unsupported");
        run("4 none, where a nonterminal is out of reach", "rule A=a : 0; rule B=c : 1; rule B=c : 2; build : 3; check : 0");
        run("4 50 states", "rule C=baD : 0; rule C=DCCA : 1; rule A=daB : 2; rule A=Ca : 3; build : 50; states : 50; check : 0",
            "entry 49 0 : -1; entry 50 0 : Index; set 0 0 49 : ok; set 0 0 50 : Argument");
        run("4 51 states", "rule A=Bbc : 0; rule A=AcB : 1; rule A=AAB : 2; rule B=dAaa : 3; build : Unsupported; states : 0",
            "entry 0 0 : Index; check : State; fault 0 : -1; depth : 0; clear : ok; rule A=a : 0; build : 3; check : 0");
        run("4 nothing left of 51 states", "rule A=Bbc : 0; rule A=AcB : 1; rule A=AAB : 2; rule B=dAaa : 3; build : Unsupported; clear : ok",
            "rule A=abcd : 0; rule A=bcde : 1; rule A=cdea : 2; rule A=deab : 3; build : 18; check : 0");
        run("4 117 states", "rule B=dAa : 0; rule C=cBcc : 1; rule A=baCb : 2; rule C=Ab : 3; rule A=dd : 4; rule B=Aa : 5",
            "rule B=cAA : 6; rule A=adBB : 7; build : Unsupported; states : 0");
    }

    private static void promise5() {
        run("5", "states : 0; rule A=a : 0; states : 0; build : 3; states : 3; parse 0 : 0; states : 3; rule A= : 1; states : 0",
            "build : 3; states : 3; clear : ok; states : 0");
    }

    private static void promise6() {
        run("6 edges", SINGLE + "; entry 0 A : 1; entry 2 $ : 100; entry 1 $ : 200; entry 0 9 : -1; entry 0 10 : Index",
            "entry 0 -1 : Index; entry 3 0 : Index; entry -1 0 : Index; entry -1 20 : Index; entry 2147483647 0 : Index",
            "entry -2147483648 0 : Index; entry 0 2147483647 : Index; entry 1 -2147483648 : Index");
        run("6 no state is left of an earlier automaton", NESTED + "; clear : ok; rule A=a : 0; entry 0 0 : Index; build : 3",
            "entry 3 0 : Index; entry 0 $ : -1; entry 1 a : -1; entry 2 a : -1; entry 2 A : -1");
    }

    private static void promise7() {
        run("7 every kind", SINGLE + "; set 0 b 2 : ok; entry 0 b : 2; set 0 b 0 : ok; entry 0 b : 0; set 0 b 100 : ok",
            "entry 0 b : 100; set 0 b 200 : ok; entry 0 b : 200; set 0 b -1 : ok; entry 0 b : -1; set 2 A 1 : ok; entry 2 A : 1",
            "entry 1 A : -1; entry 0 a : 2");
        run("7 the top is a rule", SINGLE + "; set 0 $ 101 : ok; entry 0 $ : 101; set 0 $ 102 : Argument; entry 0 $ : 101");
        run("7 the top of 8", "rule A=a : 0; rule B= : 1; rule B= : 2; rule B= : 3; rule B= : 4; rule B= : 5; rule B= : 6",
            "rule B= : 7; build : 3; set 0 0 108 : ok; set 0 0 109 : Argument; entry 0 0 : 108");
        run("7 no such place", SINGLE + "; set 3 0 0 : Index; set -1 0 0 : Index; set 0 10 0 : Index; set 0 -1 0 : Index",
            "set 3 0 50 : Index; set 0 10 777 : Index; set 2147483647 9 0 : Index; set 0 -2147483648 0 : Index");
        run("7 no such entry", SINGLE + "; set 0 a -2 : Argument; set 0 a 3 : Argument; set 0 a 49 : Argument; set 0 a 50 : Argument",
            "set 0 a 99 : Argument; set 0 a 199 : Argument; set 0 a 201 : Argument; set 0 a 2147483647 : Argument",
            "set 0 a -2147483648 : Argument; entry 0 a : 2");
        run("7 no parse then", SINGLE + "; feed a : 1; parse 400 : 1; set 0 c -1 : ok; nodes : 0; depth : 0; node 0 0 : Index",
            "parse 400 : 1; set 0 a -1 : ok; parse 400 : 2");
        run("7 what throws leaves the parse", SINGLE + "; feed a : 1; parse 400 : 1; set 0 c 3 : Argument; set 0 10 0 : Index",
            "nodes : 2; depth : 2; node 1 0 : 0");
    }

    private static void promise8() {
        run("8 ordinary", NESTED + "; has 0 2 0 $ : 1; has 0 0 0 $ : 1; has 0 1 0 $ : 1; has 0 0 0 b : 0; has 2 0 1 $ : 1",
            "has 2 0 0 b : 1; has 2 0 0 $ : 0; has 1 2 1 $ : 1; has 5 0 3 $ : 1; has 7 0 3 b : 1; has 7 0 3 $ : 0; has 0 2 0 a : 0");
        run("8 no such item", NESTED + "; has 0 3 0 $ : Argument; has 0 -1 0 $ : Argument; has 0 0 4 $ : Argument",
            "has 0 0 -1 $ : Argument; has 0 1 1 $ : Argument; has 0 2 2 $ : Argument; has 0 0 0 D : Argument",
            "has 0 0 0 10 : Argument; has 0 0 0 -1 : Argument; has 0 2147483647 0 $ : Argument; has 0 0 2147483647 $ : Argument",
            "has 0 0 0 -2147483648 : Argument; has 0 0 3 $ : 0; has 0 2 1 a : 0");
        run("8 no such state", NESTED + "; has 8 0 0 $ : Index; has -1 0 0 $ : Index; has 8 9 9 99 : Index; has -2147483648 0 0 $ : Index");
    }

    private static void promise9() {
        run("9 there and back", NESTED + "; turn 0 0 0 b : 1; has 0 0 0 b : 1; has 0 0 0 $ : 1; turn 0 0 0 b : 0; has 0 0 0 b : 0",
            "turn 0 0 0 $ : 0; has 0 0 0 $ : 0; turn 0 0 0 $ : 1; turn 7 2 1 a : 1; has 7 2 1 a : 1; has 7 2 1 b : 0; has 7 2 0 a : 0");
        run("9 no such item", NESTED + "; turn 0 3 0 $ : Argument; turn 0 -1 0 $ : Argument; turn 0 0 4 $ : Argument",
            "turn 0 0 -1 $ : Argument; turn 0 1 1 $ : Argument; turn 0 2 2 $ : Argument; turn 0 0 0 D : Argument",
            "turn 0 0 0 10 : Argument; turn 8 0 0 $ : Index; turn -1 0 0 $ : Index; turn 8 9 9 9 : Index; check : 0");
        run("9 the parse stays, and the fault", SINGLE + "; feed a : 1; set 1 b 0 : ok; check : 3; parse 400 : 1; turn 0 0 1 a : 1",
            "nodes : 2; depth : 2; node 1 1 : 0; fault 0 : 1; fault 1 : 5");
    }

    private static void promise10() {
        run("10 none", "check : State; rule A=a : 0; check : State; build : 3; check : 0; check : 0; clear : ok; check : State");
        run("10 unfounded in state 0", SINGLE + "; turn 0 1 1 a : 1; check : 1; fault 0 : 0; fault 1 : 1; fault 2 : 1; fault 3 : 4",
            "turn 0 0 1 e : 1; check : 1; fault 1 : 0; fault 2 : 1; fault 3 : 8");
        run("10 unfounded in another state", SINGLE + "; turn 2 1 0 b : 1; check : 1; fault 0 : 2; fault 1 : 1; fault 2 : 0",
            "fault 3 : 5; turn 1 1 0 $ : 1; check : 1; fault 0 : 1; fault 3 : 9");
        run("10 the top in state 0 has a foundation", SINGLE + "; turn 0 1 0 b : 1; check : 6; fault 0 : 0; fault 1 : 1",
            "fault 2 : 0; fault 3 : 5");
        run("10 foreign by the symbol", SINGLE + "; set 0 b 2 : ok; check : 2; fault 0 : 0; fault 1 : 5; fault 2 : -1; fault 3 : -1",
            "set 0 b -1 : ok; set 0 $ 2 : ok; check : 2; fault 1 : 9; set 0 C 1 : ok; check : 2; fault 1 : 2");
        run("10 foreign by the item", SINGLE + "; turn 2 0 1 b : 1; check : 2; fault 0 : 0; fault 1 : 4; turn 0 0 0 b : 1; check : 8",
            "turn 2 0 1 b : 0; check : 7");
        run("10 foreign by one way of two", LEFT_LIST + "; set 2 A 1 : ok; check : 2; fault 0 : 2; fault 1 : 0",
            "set 0 a 3 : ok; check : 2; fault 0 : 0; fault 1 : 4");
        run("10 a go to nothing is not foreign", SINGLE + "; turn 2 0 1 $ : 0; check : 3; fault 0 : 2; fault 1 : 9; set 2 $ -1 : ok",
            "set 0 b 2 : ok; check : 7; fault 0 : 0; fault 1 : 0; fault 2 : 0; fault 3 : 9");
        run("10 homeless", SINGLE + "; set 0 A -1 : ok; check : 4; fault 0 : 0; fault 1 : 0; fault 2 : 0; fault 3 : 9");
        run("10 homeless where none asked for it", SINGLE + "; turn 2 0 0 e : 1; check : 4; fault 0 : 2; fault 1 : 0; fault 3 : 8");
        run("10 rootless", SINGLE + "; turn 0 1 0 $ : 0; turn 1 1 1 $ : 0; set 1 $ -1 : ok; check : 5; fault 0 : 0; fault 1 : -1",
            "fault 2 : -1; fault 3 : -1; turn 0 1 0 e : 1; check : 5; turn 0 1 0 $ : 1; turn 0 1 0 e : 0; check : 7");
        run("10 open", SINGLE + "; turn 0 0 0 $ : 0; turn 2 0 1 $ : 0; set 2 $ -1 : ok; check : 6; fault 0 : 0; fault 1 : 1",
            "fault 2 : 0; fault 3 : 9");
        run("10 open by a first one", LEFT_LIST + "; turn 0 1 0 a : 0; check : 2; turn 2 1 1 a : 0; set 2 a -1 : ok; check : 6",
            "fault 0 : 0; fault 1 : 0; fault 2 : 0; fault 3 : 4");
        run("10 lazy", SINGLE + "; set 0 a -1 : ok; check : 7; fault 0 : 0; fault 1 : 0; fault 2 : 0; fault 3 : 9");
        run("10 lazy by the target", SINGLE + "; turn 2 0 1 $ : 0; set 2 $ -1 : ok; check : 7; fault 0 : 0; fault 1 : 0; fault 2 : 0");
        run("10 lazy by the top", SINGLE + "; turn 1 1 1 $ : 0; set 1 $ -1 : ok; check : 7; fault 1 : 1; fault 2 : 0; fault 3 : 9");
        run("10 shy", SINGLE + "; set 2 $ -1 : ok; check : 8; fault 0 : 2; fault 1 : 0; fault 2 : 1; fault 3 : 9");
        run("10 shy by the top", SINGLE + "; set 1 $ -1 : ok; check : 8; fault 0 : 1; fault 1 : 1; fault 2 : 1; fault 3 : 9",
            "set 1 $ 101 : ok; check : 8; fault 0 : 1; fault 1 : 1");
        run("10 good though changed", SINGLE + "; set 1 b 2 : ok; check : 2; set 1 b -1 : ok; set 0 $ -1 : ok; check : 0",
            "turn 0 0 0 a : 1; turn 2 0 1 a : 1; set 2 a 100 : ok; check : 0; feed a : 1; parse 400 : 1");
        run("10 the parse stays", SINGLE + "; feed a : 1; parse 400 : 1; check : 0; nodes : 2; depth : 2");
    }

    private static void promise10Order() {
        run("10 the kinds before the states", LEFT_LIST + "; set 0 A -1 : ok; check : 4; fault 0 : 0; set 3 B 200 : ok; check : 3",
            "fault 0 : 3; fault 1 : 1; set 3 B 1 : ok; check : 2; fault 0 : 3; turn 3 2 0 e : 1; check : 1; fault 0 : 3");
        run("10 the states before the symbols", LEFT_LIST + "; set 2 B 200 : ok; set 1 $ 100 : ok; check : 3; fault 0 : 1; fault 1 : 9",
            "set 1 e 101 : ok; check : 3; fault 1 : 8; set 1 A 100 : ok; check : 3; fault 1 : 0");
        run("10 rule, dot, ahead", LEFT_LIST + "; turn 0 2 1 a : 1; check : 1; fault 1 : 2; turn 0 1 1 e : 1; check : 1; fault 1 : 1",
            "turn 0 0 2 a : 1; check : 1; fault 1 : 0; fault 2 : 2; turn 0 0 1 e : 1; check : 1; fault 2 : 1; fault 3 : 8",
            "turn 0 0 1 b : 1; check : 1; fault 3 : 5; turn 3 2 0 a : 1; check : 1; fault 0 : 0; fault 3 : 5");
    }

    private static void promise10Bold() {
        run("10 bold reduce", SINGLE + "; set 2 b 100 : ok; check : 3; fault 0 : 2; fault 1 : 5; fault 2 : -1; fault 3 : -1");
        run("10 bold reduce by another rule", LEFT_LIST + "; set 2 a 100 : ok; check : 3; fault 0 : 2; fault 1 : 4");
        run("10 bold reduce with the dot too early", LEFT_LIST + "; set 1 a 100 : ok; check : 3; fault 0 : 1; fault 1 : 4");
        run("10 bold accept", SINGLE + "; set 0 $ 200 : ok; check : 3; fault 0 : 0; fault 1 : 9; set 0 $ -1 : ok; set 2 $ 200 : ok; check : 3");
        run("10 bold accept at a terminal", SINGLE + "; turn 0 1 0 a : 1; turn 1 1 1 a : 1; set 1 a 200 : ok; check : 3; fault 0 : 1",
            "fault 1 : 4; set 1 a 101 : ok; check : 6; fault 0 : 0; fault 1 : 1; fault 3 : 4");
        run("10 bold at a nonterminal", SINGLE + "; set 2 A 100 : ok; check : 3; fault 0 : 2; fault 1 : 0; set 2 A 200 : ok; check : 3",
            "set 2 A 101 : ok; check : 3; set 2 A -1 : ok; set 1 D 200 : ok; check : 3; fault 0 : 1; fault 1 : 3");
        run("10 bold go at the end", SINGLE + "; turn 2 0 1 $ : 0; set 2 $ -1 : ok; set 1 $ 2 : ok; check : 3; fault 0 : 1; fault 1 : 9");
        run("10 bold go to state 0", SINGLE + "; set 1 b 0 : ok; check : 3; fault 0 : 1; fault 1 : 5; set 1 b -1 : ok; set 2 C 0 : ok",
            "check : 3; fault 0 : 2; fault 1 : 2; set 2 C -1 : ok; set 2 $ 0 : ok; check : 3; fault 1 : 9");
    }

    private static void promise11() {
        run("11 no such what", SINGLE + "; set 2 $ -1 : ok; check : 8; fault 4 : -1; fault -1 : -1; fault 2147483647 : -1",
            "fault -2147483648 : -1; fault 0 : 2; fault 3 : 9");
        run("11 the latest check() alone", SINGLE + "; set 2 $ -1 : ok; fault 0 : -1; check : 8; set 2 $ 100 : ok; fault 0 : 2",
            "fault 1 : 0; fault 2 : 1; fault 3 : 9; check : 0; fault 0 : -1; fault 1 : -1; fault 2 : -1; fault 3 : -1");
        run("11 another fault", SINGLE + "; set 2 $ -1 : ok; check : 8; set 2 A 200 : ok; fault 1 : 0; fault 2 : 1; check : 3",
            "fault 0 : 2; fault 1 : 0; fault 2 : -1; fault 3 : -1");
        run("11 gone with rule()", SINGLE + "; set 2 $ -1 : ok; check : 8; rule B= : 1; fault 0 : -1; fault 3 : -1");
        run("11 gone with clear()", SINGLE + "; set 2 $ -1 : ok; check : 8; clear : ok; fault 0 : -1; fault 3 : -1; check : State");
        run("11 gone with build()", SINGLE + "; set 2 $ -1 : ok; check : 8; build : 3; fault 0 : -1; fault 3 : -1");
        run("11 stays with all others", SINGLE + "; set 2 $ -1 : ok; check : 8; feed a : 1; feed $ : -1; parse 400 : 2; empty : ok",
            "parse 401 : Argument; rule 20 : Argument; set 0 b 1 : ok; turn 0 0 0 a : 1; fault 0 : 2; fault 1 : 0; fault 2 : 1; fault 3 : 9");
    }

    private static void promise12() {
        run("12 20", "feed a : 1; feed b : 2; feed c : 3; feed d : 4; feed e : 5; feed a : 6; feed a : 7; feed a : 8; feed a : 9",
            "feed a : 10; feed a : 11; feed a : 12; feed a : 13; feed a : 14; feed a : 15; feed a : 16; feed a : 17; feed a : 18",
            "feed a : 19; feed a : 20; feed a : -1; feed $ : -1; feed a : -1; empty : ok; feed a : 1");
        run("12 no terminal", "feed D : -1; feed $ : -1; feed 10 : -1; feed -1 : -1; feed 0 : -1; feed 2147483647 : -1",
            "feed -2147483648 : -1; feed a : 1; feed $ : -1; feed b : 2");
        run("12 the order", "rule A=abcd : 0; build : 6; feed a : 1; feed b : 2; feed c : 3; feed d : 4; parse 400 : 1; empty : ok",
            "feed b : 1; feed a : 2; feed c : 3; feed d : 4; parse 400 : 2; nodes : 0");
        run("12 no parse then", SINGLE + "; feed a : 1; parse 400 : 1; feed a : 2; nodes : 0; depth : 0; node 0 0 : Index; parse 400 : 2");
        run("12 what is refused leaves the parse", SINGLE + "; feed a : 1; parse 400 : 1; feed $ : -1; nodes : 2; depth : 2");
        run("12 it stays", "feed a : 1; rule A=a : 0; build : 3; parse 400 : 1; clear : ok; rule B=a : 0; build : 3; parse 400 : 1");
    }

    private static void promise13() {
        run("13", "empty : ok; rule A= : 0; build : 2; feed a : 1; parse 400 : 2; empty : ok; nodes : 0; depth : 0; parse 400 : 1",
            "depth : 2; empty : ok; nodes : 0; depth : 0; node 0 0 : Index; feed a : 1");
        run("13 the automaton stays, and the fault", SINGLE + "; set 2 $ -1 : ok; check : 8; empty : ok; states : 3; fault 0 : 2");
    }

    private static void promise14() {
        run("14 steps", SINGLE + "; feed a : 1; parse 0 : 0; depth : 1; nodes : 0; parse 1 : 0; depth : 2; nodes : 1; parse 2 : 0",
            "depth : 2; nodes : 2; parse 3 : 1; parse 4 : 1; parse 400 : 1; parse 2 : 0; parse 2 : 0");
        run("14 rejected", SINGLE + "; parse 1 : 2; parse 0 : 0; feed b : 1; parse 400 : 2; depth : 1; nodes : 0; empty : ok; feed a : 1",
            "feed a : 2; parse 1 : 0; parse 2 : 2; depth : 2; nodes : 1");
        run("14 wrong steps", SINGLE + "; feed a : 1; parse 400 : 1; parse 401 : Argument; parse -1 : Argument; parse -2147483648 : Argument",
            "parse 2147483647 : Argument; nodes : 2; depth : 2");
        run("14 the automaton first", "parse 401 : State; parse -1 : State; parse 0 : State; rule A= : 0; parse 401 : State; build : 2",
            "parse 401 : Argument; parse 0 : 0");
        run("14 nested", NESTED + "; parse 400 : 1; feed a : 1; parse 400 : 2; feed b : 2; parse 400 : 1; feed b : 3; parse 400 : 2");
        run("14 an accept with input left", SINGLE + "; set 1 b 200 : ok; set 2 b 100 : ok; feed a : 1; feed b : 2; parse 400 : 1",
            "nodes : 2; depth : 2");
        run("14 items do not count", SINGLE + "; feed a : 1; turn 0 1 0 $ : 0; turn 0 0 0 $ : 0; turn 2 0 1 $ : 0; parse 400 : 1");
    }

    private static void promise14Internal() {
        run("14 a go at the end", SINGLE + "; set 0 $ 2 : ok; parse 400 : 3; depth : 1; nodes : 0; feed a : 1; set 2 $ 0 : ok",
            "parse 400 : 3; depth : 2; nodes : 1; parse 1 : 0");
        run("14 too few on the stack", SINGLE + "; set 0 $ 100 : ok; parse 400 : 3; depth : 1; nodes : 0");
        run("14 other nodes on the stack", SINGLE + "; set 0 b 2 : ok; feed b : 1; parse 400 : 3; depth : 2; nodes : 1; node 0 2 : -1");
        run("14 other nodes lower on the stack", "rule A=ab : 0; build : 4; set 0 c 2 : ok; feed c : 1; feed b : 2; parse 400 : 3",
            "depth : 3; nodes : 2; empty : ok; feed a : 1; feed b : 2; parse 400 : 1; depth : 2; nodes : 3");
        run("14 no go for what was made", SINGLE + "; feed a : 1; set 0 A -1 : ok; parse 400 : 3; depth : 1; nodes : 2; node 1 0 : 0",
            "node 0 2 : 1; node 1 2 : -1; node 1 3 : 0; node 1 4 : 1; set 0 A 100 : ok; parse 400 : 3; depth : 1; nodes : 2",
            "set 0 A 200 : ok; parse 400 : 3; set 0 A 0 : ok; parse 400 : 2; depth : 2; nodes : 2");
        run("14 a reduce by the top", SINGLE + "; set 1 $ 101 : ok; feed a : 1; parse 400 : 3; depth : 2; nodes : 2; node 1 2 : -1");
        run("14 an accept too early", SINGLE + "; set 0 $ 200 : ok; parse 400 : 3; depth : 1; nodes : 0");
        run("14 an accept of another one", SINGLE + "; set 2 $ 200 : ok; feed a : 1; parse 400 : 3; depth : 2; nodes : 1");
        run("14 an accept of two", NESTED + "; set 4 b 200 : ok; feed a : 1; feed a : 2; feed b : 3; parse 400 : 3; depth : 3; nodes : 2",
            "set 3 b 200 : ok; set 4 b 101 : ok; empty : ok; feed a : 1; feed b : 2; parse 400 : 3; depth : 3; nodes : 2");
    }

    private static void promise14NoRoom() {
        String feeds = "feed a : 1; feed a : 2; feed a : 3; feed a : 4; feed a : 5; feed a : 6; feed a : 7; feed a : 8; feed a : 9; "
            + "feed a : 10; feed a : 11; feed a : 12; feed a : 13; feed a : 14";
        run("14 60 nodes and a 61st", "rule A=AaBB : 0; rule A= : 1; rule B= : 2; build : 5; " + feeds + "; parse 400 : 1; nodes : 57",
            "feed a : 15; parse 400 : 4; nodes : 60; depth : 5; node 59 2 : -1; node 60 0 : Index; parse 60 : 0; parse 61 : 4; parse 60 : 0");
        run("14 no room with a full stack", "rule A=aBCA : 0; rule A= : 1; rule B= : 2; rule C= : 3; build : 6; " + feeds,
            "parse 400 : 1; nodes : 57; feed a : 15; parse 400 : 4; nodes : 60; feed a : 16; feed a : 17; feed a : 18; feed a : 19",
            "feed a : 20; parse 400 : 4; nodes : 60; depth : 61");
        String six = "; feed a : 15; feed a : 16; feed a : 17; feed a : 18; feed a : 19; feed a : 20";
        String sixty = "rule A=AB : 0; rule A=B : 1; rule B=a : 2; rule C=A : 3; build : 5; " + feeds + six;
        run("14 no room at a go", "rule A=AaB : 0; rule A=C : 1; rule B= : 2; rule C=D : 3; rule D= : 4; build : 6; " + feeds + six,
            "parse 400 : 4; nodes : 60; depth : 2; node 59 0 : 0; node 59 2 : -1; node 59 4 : 19; parse 60 : 0; parse 61 : 4");
        run("14 60 nodes and good", sixty + "; parse 400 : 1; nodes : 60; depth : 2; node 59 2 : -1; node 59 4 : 20; parse 60 : 0");
        run("14 a 61st at the end", "rule A=AB : 0; rule A= : 1; rule B=a : 2; build : 4; " + feeds + six,
            "parse 400 : 4; nodes : 60; depth : 3; node 59 0 : 1; node 59 2 : -1");
        run("14 with 60 nodes all but a 61st is as ever", sixty + "; set 1 $ 100 : ok; parse 400 : 3; depth : 2; set 1 $ 101 : ok; parse 400 : 3",
            "set 1 $ 102 : ok; parse 400 : 3; set 1 $ 104 : ok; parse 400 : 3; set 1 $ 2 : ok; parse 400 : 3; set 1 $ -1 : ok; parse 400 : 2",
            "nodes : 60; depth : 2; node 59 2 : -1");
        run("14 no room before a go that is missing", sixty + "; entry 0 C : -1; set 1 $ 103 : ok; parse 400 : 4; nodes : 60; depth : 2; node 59 2 : -1");
        run("14 without end", "rule A=a : 0; rule A= : 1; build : 3; set 0 A 0 : ok; set 0 $ 101 : ok; parse 400 : 4; nodes : 60",
            "depth : 61; node 59 0 : 0; node 59 1 : 1; node 59 3 : 0; node 59 4 : 0; parse 60 : 0; depth : 61; parse 61 : 4; parse 59 : 0; nodes : 59");
    }

    private static void promise15() {
        run("15", "nodes : 0; rule A=Aa : 0; nodes : 0; rule A=a : 1; build : 4; nodes : 0; feed a : 1; feed a : 2; nodes : 0",
            "parse 1 : 0; nodes : 1; parse 400 : 1; nodes : 4; parse 0 : 0; nodes : 0; parse 3 : 0; nodes : 3; feed a : 3; nodes : 0");
    }

    private static void promise16() {
        run("16 a tree", NESTED + "; feed a : 1; feed a : 2; feed b : 3; feed b : 4; parse 400 : 1; nodes : 7",
            "node 0 0 : 4; node 0 1 : -1; node 0 2 : 6; node 0 3 : 0; node 0 4 : 1; node 1 0 : 4; node 1 1 : -1; node 1 2 : 4",
            "node 1 3 : 1; node 1 4 : 1; node 2 0 : 0; node 2 1 : 1; node 2 2 : 4; node 2 3 : 2; node 2 4 : 0; node 3 0 : 5",
            "node 3 1 : -1; node 3 2 : 4; node 3 3 : 2; node 3 4 : 1; node 4 0 : 0; node 4 1 : 0; node 4 2 : 6; node 4 3 : 1; node 4 4 : 2",
            "node 5 0 : 5; node 5 2 : 6; node 5 3 : 3; node 5 4 : 1; node 6 0 : 0; node 6 1 : 0; node 6 2 : -1; node 6 3 : 0; node 6 4 : 4");
        run("16 empty ones", "rule A=BaB : 0; rule B= : 1; build : 5; feed a : 1; parse 400 : 1; nodes : 4; node 0 0 : 1; node 0 3 : 0",
            "node 0 4 : 0; node 1 3 : 0; node 2 0 : 1; node 2 3 : 1; node 2 4 : 0; node 3 3 : 0; node 3 4 : 1; node 0 2 : 3; node 2 2 : 3");
        run("16 of a rejected one", NESTED + "; feed a : 1; feed b : 2; feed c : 3; parse 400 : 2; nodes : 3; node 0 2 : -1; node 1 1 : 1",
            "node 1 2 : -1; node 2 2 : -1; node 2 0 : 5; node 3 0 : Index");
        run("16 parents are of this parse", SINGLE + "; feed a : 1; parse 400 : 1; node 0 2 : 1; parse 1 : 0; node 0 2 : -1");
        run("16 wrong", SINGLE + "; node 0 0 : Index; node 0 5 : Index; feed a : 1; parse 400 : 1; node 2 0 : Index; node -1 0 : Index",
            "node 2 9 : Index; node 0 5 : Argument; node 0 -1 : Argument; node 1 2147483647 : Argument; node 1 -2147483648 : Argument",
            "node 2147483647 0 : Index; node -2147483648 0 : Index; node 1 4 : 1");
    }

    private static void promise17() {
        run("17", "depth : 0; rule A=aAb : 0; rule A= : 1; depth : 0; build : 8; depth : 0; feed a : 1; feed a : 2; feed b : 3; feed b : 4",
            "parse 0 : 0; depth : 1; parse 1 : 0; depth : 2; parse 2 : 0; depth : 3; parse 3 : 0; depth : 4; parse 4 : 0; depth : 5",
            "parse 5 : 0; depth : 3; parse 6 : 0; depth : 4; parse 7 : 0; depth : 2; parse 8 : 1; depth : 2; parse 401 : Argument",
            "depth : 2; empty : ok; depth : 0");
    }
}
