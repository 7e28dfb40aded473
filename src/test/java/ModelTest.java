import java.util.Random;
import java.util.TreeMap;

/** Promises 4, 7, 8, 9 and 10 on made-up programs: the class must answer as the model does. */
final class ModelTest {
    private static final int PROGRAMS = 40000;
    private static final int TEXTS = 200000;

    private final Tester t = new Tester();
    private final Random random = new Random(20261115);
    private final TreeMap<Integer, Integer> ends = new TreeMap<>();
    private final TreeMap<Integer, Integer> readings = new TreeMap<>();
    private int most = 0;

    public static void main(String[] args) throws InterruptedException {
        ModelTest test = new ModelTest();
        // The model calls itself as deep as the promises go.
        Thread thread = new Thread(null, test::compare, "model", 1L << 29);
        thread.start();
        thread.join();
        test.t.finish("ModelTest");
    }

    private void compare() {
        try {
            for (int n = 0; n < TEXTS; n++) {
                compareText(n % 2 == 0 ? mutated() : noise());
            }
            for (int n = 0; n < PROGRAMS; n++) {
                compareProgram();
            }
        } catch (RuntimeException | StackOverflowError e) {
            t.due("the comparison threw", e.toString(), "nothing");
        }
        // What never comes up is not compared.
        for (int end : new int[] {LazyGraphs.OUT, LazyGraphs.BAD, LazyGraphs.LOOP, LazyGraphs.LONG}) {
            t.due("enough runs end with " + end, ends.getOrDefault(end, 0) > PROGRAMS / 100, true);
        }
        for (int length = 1; length <= 15; length++) {
            t.due("enough runs write " + length, ends.getOrDefault(length, 0) > 20, true);
        }
        for (int kind = -2; kind <= 4; kind++) {
            t.due("enough texts of kind " + kind, readings.getOrDefault(kind, 0) > 1000, true);
        }
        t.due("some run has 50 entries", most, 50);
    }

    private void compareText(String text) {
        LazyGraphs x = new LazyGraphs();
        int got = t.define(x, 'A', text);
        int want = new Model().define('A', text);
        t.due("define " + text, got, want);
        readings.merge(want <= -100 ? -2 : want < 0 ? -1 : want, 1, Integer::sum);
    }

    private void compareProgram() {
        LazyGraphs x = new LazyGraphs();
        Model model = new Model();
        StringBuilder program = new StringBuilder();
        ProgramMaker maker = new ProgramMaker(random);
        for (char letter = 'A'; letter <= 'F'; letter++) {
            String text = maker.definition(letter);
            t.due("define " + text, t.define(x, letter, text), model.define(letter, text));
            program.append(letter).append(text).append("  ");
        }
        for (int n = 0; n < 4; n++) {
            char letter = n < 2 ? 'A' : (char) ('A' + random.nextInt(6));
            if (x.parameters(letter) != LazyGraphs.NONE) {
                compareRun(x, model, letter, n % 2 == 0 ? 50 : 1 + random.nextInt(50), program.toString());
            }
        }
    }

    private void compareRun(LazyGraphs x, Model model, char letter, int entries, String program) {
        String call = "run " + letter + ", " + entries + " of " + program;
        int want = model.run(letter, entries);
        t.due(call, x.run(letter, entries), want);
        t.due(call + ": page", t.page(x), model.page.toString());
        t.due(call + ": entries", x.entries(), model.entered);
        ends.merge(want, 1, Integer::sum);
        most = Math.max(most, model.entered);
    }

    /** A definition with up to two signs changed. */
    private String mutated() {
        char letter = (char) ('A' + random.nextInt(6));
        StringBuilder s = new StringBuilder(new ProgramMaker(random).definition(letter));
        for (int changes = random.nextInt(3); changes > 0 && s.length() > 0; changes--) {
            int p = random.nextInt(s.length());
            int kind = random.nextInt(3);
            if (kind == 0) {
                s.deleteCharAt(p);
            } else if (kind == 1 && s.length() < 40) {
                s.insert(p, sign());
            } else {
                s.setCharAt(p, sign());
            }
        }
        return s.toString();
    }

    private char sign() {
        String signs = "abcxyz0129ABZ~:(+-*<=?/$().[ >{@`|\\";
        return signs.charAt(random.nextInt(signs.length()));
    }

    /** Signs of which most can stand where they stand, so that the reading goes far and deep. */
    private String noise() {
        StringBuilder s = new StringBuilder(random.nextBoolean() ? "xy." : ".");
        String often = random.nextBoolean() ? "::+?(/$xy12" : "(((:xyF))$x";
        int size = random.nextInt(41 - s.length());
        for (int i = 0; i < size; i++) {
            char next = random.nextInt(30) == 0 ? sign() : often.charAt(random.nextInt(often.length()));
            int fault = Model.fault(s.toString() + next);
            boolean stands = fault < 0 || fault == s.length() + 1;
            if (stands || random.nextInt(20) == 0) {
                s.append(next);
            }
        }
        return s.toString();
    }
}
