/** Compares answers with those that are due, and tells tongues and rings in one go. */
final class Check {
    private int wrong = 0;
    private int seen = 0;
    private String part = "";

    void part(String name) {
        part = name;
    }

    void due(String call, int got, int want) {
        seen++;
        if (got != want) {
            wrong++;
            System.out.println(part + ": " + call + " answered " + got + ", due is " + want);
        }
    }

    void holds(String what, boolean is) {
        seen++;
        if (!is) {
            wrong++;
            System.out.println(part + ": not so: " + what);
        }
    }

    /** Ends the test, with exit code 1 if an answer was not as due. */
    void end() {
        System.out.println(seen + " looked at, " + wrong + " wrong");
        if (wrong != 0 || seen == 0) {
            System.exit(1);
        }
    }

    static int tell(ReadFromAnywhere x, String text) {
        for (int i = 0; i < text.length(); i++) {
            x.letter(text.charAt(i));
        }
        return x.tongue();
    }

    static void ring(ReadFromAnywhere x, int... words) {
        x.bare();
        for (int word : words) {
            x.stone(word);
        }
    }

    static ReadFromAnywhere with(String text, int... words) {
        ReadFromAnywhere x = new ReadFromAnywhere();
        tell(x, text);
        ring(x, words);
        return x;
    }
}
