/** Compares answers with what is due, and ends a test with exit code 1 if one was wrong. */
final class Tester {
    private int wrong = 0;

    void due(String call, long got, long want) {
        if (got != want) {
            wrong++;
            System.out.println(call + " answered " + got + ", due is " + want);
        }
    }

    void due(String call, String got, String want) {
        if (!got.equals(want)) {
            wrong++;
            System.out.println(call + " answered \"" + got + "\", due is \"" + want + "\"");
        }
    }

    void due(String call, boolean got, boolean want) {
        due(call, got ? 1 : 0, want ? 1 : 0);
    }

    /** Wants the call to throw exactly this class. */
    void throwing(String call, Class<? extends RuntimeException> want, Runnable action) {
        String got = "nothing";
        try {
            action.run();
        } catch (RuntimeException e) {
            got = e.getClass().getName();
        }
        due(call + " throws", got, want.getName());
    }

    /** Types the text, of which every character must be taken, and defines the letter by it. */
    int define(LazyGraphs x, char letter, String text) {
        typeAll(x, text);
        return x.define(letter);
    }

    void typeAll(LazyGraphs x, String text) {
        for (int i = 0; i < text.length(); i++) {
            due("type " + text.charAt(i) + " of " + text, x.type(text.charAt(i)), true);
        }
    }

    /** A new object with definitions, each one written as a letter and then its text. */
    LazyGraphs with(String... definitions) {
        LazyGraphs x = new LazyGraphs();
        for (String d : definitions) {
            int answer = define(x, d.charAt(0), d.substring(1));
            due("define " + d, answer, d.indexOf('.') - 1);
        }
        return x;
    }

    /** Runs A on a new object with these definitions and looks at all that can be seen behind it. */
    void run(int entries, int answer, String page, int entered, String... definitions) {
        String call = "run A, " + entries + " of " + String.join("  ", definitions);
        LazyGraphs x = with(definitions);
        due(call, x.run('A', entries), answer);
        due(call + ": page", page(x), page);
        due(call + ": entries", x.entries(), entered);
    }

    /** Runs A, which must come to its end, on a new object with these definitions. */
    void writes(String page, int entered, String... definitions) {
        run(50, page.length(), page, entered, definitions);
    }

    String page(LazyGraphs x) {
        StringBuilder page = new StringBuilder();
        for (int p = 0; p < x.length(); p++) {
            page.append(x.charAt(p));
        }
        return page.toString();
    }

    void finish(String test) {
        if (wrong != 0) {
            System.out.println(test + ": " + wrong + " answers are not as due");
            System.exit(1);
        }
    }
}
