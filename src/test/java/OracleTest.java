import java.util.ArrayList;
import java.util.List;
import java.util.Random;

/** Long runs of chosen and of random calls, each answered as the oracle answers it. */
public final class OracleTest {
    private static final int CALLS = 512;
    private static final int RUNS = 4000;

    private final Random random;
    private final Oracle oracle = new Oracle();
    private final Caller due = new Caller(oracle);
    private final Caller got = new Caller(new ParserProof());
    private final List<String> told = new ArrayList<>();
    private static final int[] KINDS = new int[9];
    private static final int[] OUTCOMES = new int[5];

    private OracleTest(long seed) {
        random = new Random(seed);
    }

    public static void main(String[] arguments) {
        int wrong = 0;
        for (int run = 0; run < RUNS && wrong < 5; run++) {
            OracleTest test = new OracleTest(run);
            if (!test.agree()) {
                wrong++;
                System.out.println("run " + run + ": " + String.join("; ", test.told));
            }
        }
        wrong += unseen("check()", KINDS) + unseen("parse()", OUTCOMES);
        System.out.println(wrong == 0 ? "all runs are as the oracle's" : wrong + " runs are not");
        System.exit(wrong == 0 ? 0 : 1);
    }

    /** Runs that never come to some answer would say nothing about it. */
    private static int unseen(String call, int[] seen) {
        int unseen = 0;
        for (int answer = 0; answer < seen.length; answer++) {
            if (seen[answer] < 20) {
                System.out.println(call + " answered " + answer + " only " + seen[answer] + " times");
                unseen++;
            }
        }
        return unseen;
    }

    private boolean agree() {
        while (told.size() < CALLS) {
            if (!act()) {
                return false;
            }
        }
        return true;
    }

    private boolean same(String name, int... values) {
        String want = due.call(name, values);
        String have = got.call(name, values);
        StringBuilder row = new StringBuilder(name).append('(');
        for (int i = 0; i < values.length; i++) {
            row.append(i == 0 ? "" : ", ").append(values[i]);
        }
        told.add(row.append(") = ").append(have).append(want.equals(have) ? "" : ", due is " + want).toString());
        if (name.equals("check") && want.length() == 1) {
            KINDS[Integer.parseInt(want)]++;
        }
        if (name.equals("parse") && want.length() == 1) {
            OUTCOMES[Integer.parseInt(want)]++;
        }
        return want.equals(have);
    }

    private int any(int from, int to) {
        return from + random.nextInt(to - from + 1);
    }

    /** Mostly what is there, sometimes what is just beside it, seldom any number at all. */
    private int near(int count) {
        int choice = random.nextInt(40);
        if (choice == 0) {
            return random.nextInt();
        }
        return choice == 1 || count <= 0 ? any(-2, count + 2) : random.nextInt(count);
    }

    private boolean act() {
        if (oracle.states() == 0 && random.nextInt(4) > 0) {
            return newGrammar();
        }
        switch (random.nextInt(24)) {
            case 0:
                return random.nextInt(3) > 0 || newGrammar();
            case 1:
                return random.nextInt(4) > 0 || same("rule", anyRule());
            case 2:
                return random.nextInt(8) > 0 || same("clear");
            case 3:
                return same("build") && same("states");
            case 4:
            case 5:
                return same("entry", near(oracle.states()), near(10));
            case 6:
                return same("has", near(oracle.states()), near(9), near(5), near(10));
            case 7:
            case 8:
                return changeEntry(true);
            case 9:
            case 10:
                return changeItem(true);
            case 11:
                return changeEntry(false) && same("parse", 400) && look() && lookAtTree();
            case 12:
                return changeItem(false) && look() && changeItem(false) && look();
            case 13:
                return unbindTop();
            case 14:
                return look();
            case 15:
                return same("fault", near(4));
            case 16:
            case 17:
                return same("feed", 4 + near(5));
            case 18:
                return random.nextInt(6) > 0 || same("empty");
            case 19:
                return same("parse", near(401)) && lookAtTree();
            case 20:
                return feedALot();
            case 21:
                return same("build") && feedALot();
            case 22:
                return same("states") && same("nodes") && same("depth");
            default:
                return same("node", near(oracle.nodes()), near(5));
        }
    }

    private int anyRule() {
        return random.nextInt(4) == 0 ? random.nextInt() : Grammars.coded(Grammars.random(random).split(" ")[0]);
    }

    private boolean newGrammar() {
        boolean sound = random.nextInt(3) > 0;
        String grammar = sound ? Grammars.SOUND[random.nextInt(Grammars.SOUND.length)] : Grammars.random(random);
        boolean same = same("clear");
        for (String rule : Grammars.rules(grammar)) {
            // Bits above those of the row say nothing.
            int extra = random.nextInt(5) == 0 ? random.nextInt() << 21 : 0;
            same = same && same("rule", Grammars.coded(rule) | extra);
        }
        return same && same("build") && same("states") && look();
    }

    private boolean look() {
        return same("check") && same("fault", 0) && same("fault", 1) && same("fault", 2) && same("fault", 3);
    }

    private boolean changeEntry(boolean stays) {
        int state = near(oracle.states());
        int symbol = near(10);
        int[] choices = {-1, near(oracle.states()), near(oracle.states()), 100 + near(9), 200, near(300)};
        boolean place = state >= 0 && state < oracle.states() && symbol >= 0 && symbol < 10;
        int old = place ? oracle.entry(state, symbol) : -1;
        boolean same = same("set", state, symbol, choices[random.nextInt(choices.length)]);
        return stays || random.nextInt(3) == 0 ? same : same && look() && same("parse", 400) && same("set", state, symbol, old);
    }

    private boolean changeItem(boolean stays) {
        int state = near(oracle.states());
        int rule = near(9);
        int dot = near(5);
        int ahead = 4 + near(6);
        boolean same = same("turn", state, rule, dot, ahead);
        return stays || random.nextInt(3) == 0 ? same : same && look() && same("turn", state, rule, dot, ahead);
    }

    /** Without any item, only what state 0 has to have is missing. */
    private boolean unbindTop() {
        boolean same = same("build");
        for (int state = 0; state < oracle.states() && told.size() < CALLS - 20; state++) {
            for (int symbol = 0; symbol < 10 && oracle.states() < 5; symbol++) {
                same = same && same("set", state, symbol, -1);
            }
            for (int rule = 0; rule < 9 && oracle.states() < 5; rule++) {
                for (int dot = 0; dot < 5; dot++) {
                    for (int ahead = 4; ahead < 10; ahead++) {
                        same = same && turnOff(state, rule, dot, ahead);
                    }
                }
            }
        }
        return same && look();
    }

    private boolean turnOff(int state, int rule, int dot, int ahead) {
        try {
            return !oracle.has(state, rule, dot, ahead) || same("turn", state, rule, dot, ahead);
        } catch (IllegalArgumentException noSuchItem) {
            return true;
        }
    }

    private boolean feedALot() {
        boolean same = random.nextInt(2) == 0 || same("empty");
        int many = any(0, 21);
        int only = any(4, 8);
        boolean one = random.nextBoolean();
        for (int i = 0; i < many; i++) {
            same = same && same("feed", one ? only : any(4, 8));
        }
        return same && same("parse", 400) && lookAtTree();
    }

    private boolean lookAtTree() {
        boolean same = same("nodes") && same("depth");
        for (int i = 0; i < 3; i++) {
            int node = random.nextInt(3) > 0 ? oracle.nodes() - 1 - i : near(oracle.nodes());
            for (int what = 0; what < 5; what++) {
                same = same && same("node", node, what);
            }
        }
        return same;
    }
}
