/**
 * Runs of calls on new objects, each row a call and the answer that is due, such as
 * "has 0 1 0 $ : 1". A symbol may be written by its name, a rule like "A=aAb", a void answer "ok".
 */
final class Runs {
    /** What an object is used for, at the most. */
    static final int MOST_CALLS = 512;

    private int rows;
    private int wrong;

    void run(String title, String... script) {
        Caller caller = new Caller(new ParserProof());
        int calls = 0;
        for (String line : script) {
            for (String row : line.split(";")) {
                expect(title, row.trim(), caller);
                calls++;
            }
        }
        if (calls > MOST_CALLS) {
            throw new AssertionError(title + ": nothing is promised of so many calls");
        }
    }

    /** Rows that feed the terminals of a text to an empty input. */
    static String input(String terminals) {
        StringBuilder rows = new StringBuilder("empty : ok");
        for (int i = 0; i < terminals.length(); i++) {
            rows.append("; feed ").append(terminals.charAt(i)).append(" : ").append(i + 1);
        }
        return rows.toString();
    }

    /** The answer to a call that is written like "has 0 1 0 $". */
    static String answer(Caller caller, String call) {
        String[] words = call.trim().split(" +");
        int[] arguments = new int[words.length - 1];
        for (int i = 0; i < arguments.length; i++) {
            arguments[i] = value(words[i + 1]);
        }
        return caller.call(words[0], arguments);
    }

    private void expect(String title, String row, Caller caller) {
        int colon = row.lastIndexOf(':');
        String due = row.substring(colon + 1).trim();
        String got = answer(caller, row.substring(0, colon));
        rows++;
        if (!got.equals(exception(due))) {
            wrong++;
            System.out.println(title + ": " + row + ", but the answer was " + got);
        }
    }

    /** The exceptions' names, shortened in the scripts. */
    private static String exception(String due) {
        switch (due) {
            case "Argument":
                return "IllegalArgumentException";
            case "State":
                return "IllegalStateException";
            case "Index":
                return "IndexOutOfBoundsException";
            case "Unsupported":
                return "UnsupportedOperationException";
            default:
                return due;
        }
    }

    private static int value(String word) {
        if (word.indexOf('=') == 1) {
            return Grammars.coded(word);
        }
        return word.length() == 1 && !Character.isDigit(word.charAt(0)) ? Grammars.symbol(word.charAt(0)) : Integer.parseInt(word);
    }

    int finish() {
        System.out.println(wrong == 0 ? "all " + rows + " answers are as due" : wrong + " of " + rows + " answers are not as due");
        return wrong == 0 ? 0 : 1;
    }
}
