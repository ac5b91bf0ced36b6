import java.util.Random;

/** Grammars for the tests, as texts like "A=aAb A=", and the numbers of their rules. */
final class Grammars {
    static final String SYMBOLS = "ABCDabcde$";

    /** Grammars that have a canonical automaton, of many shapes. */
    static final String[] SOUND = {
        "A=aAb A=",
        "A=a",
        "A=",
        "A=Aa A=a",
        "A=aA A=a",
        "A=Aa A=",
        "A=AaB A=B B=BbC B=C C=cAd C=e",
        "A=BB B=aB B=b",
        "A=aBd A=bCd A=aCe A=bBe B=c C=c",
        "A=BCD B=b B= C=c C= D=d D=",
        "A=aBCe B=b B= C=c C=",
        "A=BcA A= B=aBb B=",
        "B=A A=a A=bBc",
        "D=aDbD D=",
        "C=abcd C=abce",
        "A=aB",
        "A=Ba A=b B=Bc",
        "A=a A=bA B=c C=dB",
        "A=aAa A=b",
        "A=BaBb A=CbCa B= C=",
        "A=Bc B=C C=D D=a D=",
        "A=BBBB B=a",
        "A=AaBB A= B=",
        "A=aBCA A= B= C=",
        "A=B B=C C=D D=aA D=e",
    };

    private Grammars() {
    }

    static int symbol(char name) {
        int symbol = SYMBOLS.indexOf(name);
        if (symbol < 0) {
            throw new AssertionError("no symbol " + name);
        }
        return symbol;
    }

    /** The number of a rule that is written like "A=aAb". */
    static int coded(String rule) {
        int coded = symbol(rule.charAt(0)) | (rule.length() - 2) << 2;
        for (int i = 2; i < rule.length(); i++) {
            coded |= symbol(rule.charAt(i)) << 5 + 4 * (i - 2);
        }
        return coded;
    }

    static String[] rules(String grammar) {
        return grammar.split(" ");
    }

    static String random(Random random) {
        int nonterminals = 1 + random.nextInt(4);
        int terminals = 1 + random.nextInt(5);
        int rules = 1 + random.nextInt(8);
        StringBuilder grammar = new StringBuilder();
        for (int i = 0; i < rules; i++) {
            grammar.append(i == 0 ? "" : " ").append(SYMBOLS.charAt(random.nextInt(nonterminals))).append('=');
            int length = random.nextInt(5);
            for (int j = 0; j < length; j++) {
                boolean terminal = random.nextInt(100) < 60;
                grammar.append(SYMBOLS.charAt(terminal ? 4 + random.nextInt(terminals) : random.nextInt(nonterminals)));
            }
        }
        return grammar.toString();
    }
}
