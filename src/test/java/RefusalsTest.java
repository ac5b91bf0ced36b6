import java.util.ArrayList;
import java.util.List;

/**
 * What throws leaves all as it was, and so does a feed() that is refused: whatever is asked then is
 * answered as by a twin, an object with the same calls but that one. (A build() that throws
 * UnsupportedOperationException is left out here, as the document says what it leaves.)
 */
public final class RefusalsTest {
    private static final String NESTED = "rule A=aAb; rule A=; build; ";
    private static final String TWENTY = "feed a; feed b; feed c; feed d; feed e; ".repeat(4);
    private static final String EIGHT = "rule A=aAb; rule A=; rule B=; rule B=e; rule C=abcd; rule D=A; rule D=BB; rule D=; ";
    private static final String ANYTHING = "clear; rule A=Aa; rule A=Ab; rule A=Ac; rule A=Ad; rule A=Ae; rule A=; build";

    /** Objects in each kind of condition: with and without rules, automaton, changes, fault, input and parse. */
    private static final String[] CONDITIONS = {
        "",
        "feed a; feed b; ",
        "rule A=aAb; rule A=; ",
        EIGHT,
        "feed e; rule A=a; rule A=a; build; ",
        NESTED,
        NESTED + "feed a; feed b; parse 400; ",
        NESTED + "feed a; feed b; parse 2; check; ",
        NESTED + "feed a; feed c; parse 400; set 7 b -1; check; parse 0; ",
        NESTED + "feed a; feed b; set 5 $ 102; turn 3 0 0 e; check; parse 400; turn 3 0 0 e; ",
        NESTED + "set 0 d 5; check; set 0 d -1; feed a; parse 400; ",
        EIGHT + "build; feed a; feed a; feed b; feed b; parse 400; turn 0 8 1 e; check; ",
        EIGHT + TWENTY,
        TWENTY + "rule A=Aa; rule A=Ab; rule A=Ac; rule A=Ad; rule A=Ae; rule A=; build; set 1 $ -1; check; parse 400; ",
        "feed a; feed a; feed a; rule A=a; rule A=; build; set 0 A 0; set 0 a 101; set 0 $ 101; check; parse 400; ",
        "rule A=bAAb; rule A=dadd; rule A=adAc; build; set 49 e 49; check; feed d; feed a; parse 400; ",
        NESTED + "feed a; parse 400; clear; ",
        NESTED + "feed a; feed b; parse 400; empty; parse 400; set 1 $ -1; check; ",
    };

    private static final String LARGEST = " 2147483647";
    private static final String SMALLEST = " -2147483648";

    /** Calls of which many are refused in each condition. */
    private static final String[] CALLS = {
        "rule 20", "rule 24", "rule 28", "rule 292", "rule 484", "rule 4648", "rule 1179792", "rule -1", "rule A=", "rule A=a",
        "build", "check",
        "entry -1 0", "entry 0 -1", "entry 0 10", "entry 8 0", "entry 50 0", "entry" + LARGEST + " 0", "entry 0" + SMALLEST,
        "set -1 0 0", "set 0 -1 0", "set 0 10 0", "set 8 0 0", "set 50 0 0", "set 1 10 -1", "set" + LARGEST + " 0 0", "set 0" + SMALLEST + " 0",
        "set 0 0 -2", "set 0 a 8", "set 0 $ 50", "set 1 b 99", "set 2 A 103", "set 2 A 109", "set 0 0 199", "set 0 0 201", "set 0 0" + LARGEST, "set 0 0" + SMALLEST,
        "has -1 0 0 $", "has 50 0 0 $", "has 0 -1 0 $", "has 0 9 0 $", "has 0 0 -1 $", "has 0 0 5 $", "has 0 1 1 $", "has 0 0 0 3", "has 0 0 0 10",
        "turn -1 0 0 $", "turn 8 0 0 $", "turn 50 0 0 $", "turn 0 -1 0 $", "turn 0 3 0 $", "turn 0 9 0 $", "turn 0 0 -1 $", "turn 0 0 4 $", "turn 0 0 5 $", "turn 0 1 1 $",
        "turn 0 0 0 3", "turn 0 0 0 10", "turn 0 0 0" + LARGEST, "turn 0" + SMALLEST + " 0 $", "turn 0 0" + LARGEST + " $",
        "feed 3", "feed 9", "feed -1", "feed 0", "feed 10", "feed" + LARGEST, "feed" + SMALLEST, "feed 4", "feed 8",
        "parse -1", "parse 401", "parse 0", "parse 400", "parse" + LARGEST, "parse" + SMALLEST,
        "node -1 0", "node 0 0", "node 0 -1", "node 0 5", "node 1 5", "node 4 0", "node 60 0", "node 60 5", "node" + LARGEST + " 0", "node 0" + SMALLEST,
    };

    private static int refused;
    private static int wrong;

    private RefusalsTest() {
    }

    public static void main(String[] arguments) {
        int[] refusals = new int[CALLS.length];
        for (String condition : CONDITIONS) {
            List<String> probes = probes(condition);
            List<String> due = answers(condition, "", probes);
            for (int i = 0; i < CALLS.length; i++) {
                if (isRefused(condition, CALLS[i])) {
                    refusals[i]++;
                    refused++;
                    compare(condition, CALLS[i], probes, due);
                }
            }
        }
        for (int i = 0; i < CALLS.length; i++) {
            if (refusals[i] == 0) {
                wrong++;
                System.out.println(CALLS[i] + " is refused nowhere");
            }
        }
        System.out.println(refused + " refused calls, " + wrong + " of them left something changed");
        System.exit(wrong == 0 ? 0 : 1);
    }

    /** What is asked of an object in that condition, each of a new one, so that none is used for too many calls. */
    private static List<String> probes(String condition) {
        StringBuilder entries = new StringBuilder("states");
        for (int state = 0; state < 9; state++) {
            for (int symbol = 0; symbol < 10; symbol++) {
                entries.append("; entry ").append(state).append(' ').append(symbol);
            }
        }
        StringBuilder tree = new StringBuilder("nodes; depth");
        for (int node = 0; node < 60; node++) {
            for (int what = 0; what < 5; what++) {
                tree.append("; node ").append(node).append(' ').append(what);
            }
        }
        List<String> probes = new ArrayList<>();
        probes.add("states; nodes; depth; fault -1; fault 0; fault 1; fault 2; fault 3; fault 4; entry 0 0; entry 8 0; entry 49 8; node 0 0; node 59 4");
        probes.add(answered(condition, entries.toString()));
        probes.add(answered(condition, tree.toString()));
        for (int state = 0; state < 8; state++) {
            probes.add(answered(condition, items(state)));
        }
        probes.add("check; fault 0; fault 1; fault 2; fault 3; parse 400; nodes; depth");
        probes.add("build; states; check; parse 400; nodes; depth");
        probes.add("rule A=; rule B=; rule C=; rule D=; rule A=; rule A=; rule A=; rule A=; rule A=; build");
        probes.add("feed a; feed a; nodes; depth; parse 400; nodes");
        probes.add(ANYTHING + "; parse 400; " + answered(condition + ANYTHING + "; parse 400;", tree.toString()));
        return probes;
    }

    private static String items(int state) {
        StringBuilder items = new StringBuilder("states");
        for (int rule = 0; rule < 10; rule++) {
            for (int dot = 0; dot < 6; dot++) {
                for (int ahead = 4; ahead < 10; ahead++) {
                    items.append("; has ").append(state).append(' ').append(rule).append(' ').append(dot).append(' ').append(ahead);
                }
            }
        }
        return items.toString();
    }

    /** Those of the calls that do not throw in that condition: so many exceptions would take their time. */
    private static String answered(String condition, String calls) {
        Caller caller = new Caller(new ParserProof());
        ask(caller, condition);
        StringBuilder answered = new StringBuilder();
        for (String call : calls.split(";")) {
            if (!Runs.answer(caller, call).endsWith("Exception")) {
                answered.append(call).append("; ");
            }
        }
        return answered.toString();
    }

    private static boolean isRefused(String condition, String call) {
        Oracle oracle = new Oracle();
        Caller due = new Caller(oracle);
        Caller got = new Caller(new ParserProof());
        ask(due, condition);
        ask(got, condition);
        String answer = Runs.answer(due, call);
        if (!answer.equals(Runs.answer(got, call))) {
            wrong++;
            System.out.println(condition + call + ": due is " + answer);
        }
        return answer.endsWith("Exception") && !answer.equals("UnsupportedOperationException") || call.startsWith("feed") && answer.equals("-1");
    }

    private static void compare(String condition, String call, List<String> probes, List<String> due) {
        List<String> got = answers(condition, call, probes);
        for (int i = 0; i < probes.size(); i++) {
            if (!got.get(i).equals(due.get(i))) {
                wrong++;
                System.out.println(condition + call + ": changes what is answered to " + probes.get(i).substring(0, Math.min(60, probes.get(i).length())) + " ..");
            }
        }
    }

    private static List<String> answers(String condition, String call, List<String> probes) {
        List<String> answers = new ArrayList<>();
        for (String probe : probes) {
            Caller caller = new Caller(new ParserProof());
            ask(caller, condition);
            ask(caller, call);
            answers.add(ask(caller, probe));
        }
        return answers;
    }

    private static String ask(Caller caller, String calls) {
        StringBuilder answers = new StringBuilder();
        for (String call : calls.split(";")) {
            if (!call.isBlank()) {
                answers.append(Runs.answer(caller, call)).append(' ');
            }
        }
        return answers.toString();
    }
}
