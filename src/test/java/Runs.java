/**
 * Runs of calls on new objects, each row a call and the answer that is due, such as
 * "has 0 1 0 $ : 1". A symbol may be written by its name, a rule like "A=aAb", a void answer "ok".
 */
final class Runs {
    private int rows;
    private int wrong;

    void run(String title, String... script) {
        Caller caller = new Caller(new ParserProof());
        for (String line : script) {
            for (String row : line.split(";")) {
                expect(title, row.trim(), caller);
            }
        }
    }

    private void expect(String title, String row, Caller caller) {
        int colon = row.lastIndexOf(':');
        String due = row.substring(colon + 1).trim();
        String[] words = row.substring(0, colon).trim().split(" +");
        int[] arguments = new int[words.length - 1];
        for (int i = 0; i < arguments.length; i++) {
            arguments[i] = value(words[i + 1]);
        }
        String got = caller.call(words[0], arguments);
        rows++;
        if (!got.equals(exception(due))) {
            wrong++;
            System.out.println(title + ": " + row + ", but the answer was " + got);
        }
    }

    /** The exceptions' names, shortened in the scripts. */
    private static String exception(String due) {
        switch (due) {
            case "Argument":
                return "IllegalArgumentException";
            case "State":
                return "IllegalStateException";
            case "Index":
                return "IndexOutOfBoundsException";
            case "Unsupported":
                return "UnsupportedOperationException";
            default:
                return due;
        }
    }

    private static int value(String word) {
        if (word.indexOf('=') == 1) {
            return Grammars.coded(word);
        }
        return word.length() == 1 && !Character.isDigit(word.charAt(0)) ? Grammars.symbol(word.charAt(0)) : Integer.parseInt(word);
    }

    int finish() {
        System.out.println(wrong == 0 ? "all " + rows + " answers are as due" : wrong + " of " + rows + " answers are not as due");
        return wrong == 0 ? 0 : 1;
    }
}
