import java.util.function.Consumer;

/** Compares answers with what is due, and ends a test with exit code 1 if one was wrong. */
final class Tester {
    private int wrong = 0;
    private String sentence = "";
    private int compared = 0;

    /** Runs the test of these words of the document; with a test that compares nothing they have none. */
    void sentence(String words, Consumer<Tester> test) {
        sentence = words;
        compared = 0;
        try {
            test.accept(this);
        } catch (RuntimeException | StackOverflowError e) {
            tellWrong("a call threw " + e);
        }
        if (compared == 0) {
            tellWrong("nothing was compared");
        }
        sentence = "";
    }

    private void tellWrong(String what) {
        wrong++;
        System.out.println(what + (sentence.isEmpty() ? "" : "    (" + sentence + ")"));
    }

    void due(String call, long got, long want) {
        compared++;
        if (got != want) {
            tellWrong(call + " answered " + got + ", due is " + want);
        }
    }

    void due(String call, String got, String want) {
        compared++;
        if (!got.equals(want)) {
            tellWrong(call + " answered \"" + got + "\", due is \"" + want + "\"");
        }
    }

    void due(String call, boolean got, boolean want) {
        due(call, got ? 1 : 0, want ? 1 : 0);
    }

    /** Wants the call to throw exactly this class. */
    void throwing(String call, Class<? extends RuntimeException> want, Runnable action) {
        String got = "nothing";
        try {
            action.run();
        } catch (RuntimeException e) {
            got = e.getClass().getName();
        }
        due(call + " throws", got, want.getName());
    }

    /** Types the text, of which every character must be taken, and defines the letter by it. */
    int define(LazyGraphs x, char letter, String text) {
        typeAll(x, text);
        return x.define(letter);
    }

    void typeAll(LazyGraphs x, String text) {
        for (int i = 0; i < text.length(); i++) {
            due("type " + text.charAt(i) + " of " + text, x.type(text.charAt(i)), true);
        }
    }

    /** The text is a sound definition with so many parameters. */
    void reads(String text, int parameters) {
        due("define " + text, define(new LazyGraphs(), 'A', text), parameters);
    }

    void fault(String text, int place) {
        due("define " + text, define(new LazyGraphs(), 'A', text), -1 - place);
    }

    void stray(String text, int place) {
        due("define " + text, define(new LazyGraphs(), 'A', text), -100 - place);
    }

    /** A sum of so many ones that lies no deeper than it must; it has one character less than twice as many. */
    static String sum(int ones) {
        return ones == 1 ? "1" : "+" + sum(ones / 2) + sum(ones - ones / 2);
    }

    /** A new object with definitions, each one written as a letter and then its text. */
    LazyGraphs with(String... definitions) {
        LazyGraphs x = new LazyGraphs();
        for (String d : definitions) {
            int answer = define(x, d.charAt(0), d.substring(1));
            due("define " + d, answer, d.indexOf('.') - 1);
        }
        return x;
    }

    /** Runs A on a new object with these definitions and looks at all that can be seen behind it. */
    void run(int entries, int answer, String page, int entered, String... definitions) {
        String call = "run A, " + entries + " of " + String.join("  ", definitions);
        LazyGraphs x = with(definitions);
        due(call, x.run('A', entries), answer);
        due(call + ": page", page(x), page);
        due(call + ": entries", x.entries(), entered);
    }

    /** Runs A, which must come to its end, on a new object with these definitions. */
    void writes(String page, int entered, String... definitions) {
        run(50, page.length(), page, entered, definitions);
    }

    void bad(String page, int entered, String... definitions) {
        run(50, LazyGraphs.BAD, page, entered, definitions);
    }

    void loop(String page, int entered, String... definitions) {
        run(50, LazyGraphs.LOOP, page, entered, definitions);
    }

    String page(LazyGraphs x) {
        int length = x.length();
        StringBuilder page = new StringBuilder();
        for (int p = 0; p < length; p++) {
            page.append(x.charAt(p));
        }
        return page.toString();
    }

    void finish(String test) {
        if (wrong != 0) {
            System.out.println(test + ": " + wrong + " answers are not as due");
            System.exit(1);
        }
    }
}
