/** Promise 4: define. How a text is read is tested in ReadingTest. */
final class DefineTest {
    public static void main(String[] args) {
        Tester t = new Tester();
        t.sentence("Reads the text, which is empty then, as a definition", DefineTest::emptyThen);
        t.sentence("if it is sound, the letter stands for it, in place of what it stood for", DefineTest::inPlace);
        t.sentence("Answers its number of parameters", DefineTest::parameters);
        t.sentence("-1 - p with the FAULT p", DefineTest::faults);
        t.sentence("-100 - p with the place p of the STRAY", DefineTest::strays);
        t.sentence("(the letter stands for what it stood for then)", DefineTest::staysWithFaultOrStray);
        t.sentence("define: IllegalArgument: letter is not A .. Z.", DefineTest::wrongLetters);
        t.finish("DefineTest");
    }

    private static void emptyThen(Tester t) {
        for (String text : new String[] {"", ".1", "x.x", ".12", ".y", "." + Tester.sum(20), "1".repeat(40)}) {
            LazyGraphs x = new LazyGraphs();
            t.define(x, 'A', text);
            t.due("wipe behind define " + text, x.wipe(), 0);
            t.define(x, 'A', text);
            t.due("define again", t.define(x, 'B', "pq.q"), 2);
        }
    }

    private static void inPlace(Tester t) {
        LazyGraphs x = t.with("A.1", "B.A", "Zx.x");
        x.run('B', 9);
        t.due("define A", t.define(x, 'A', ".2"), 0);
        t.due("define leaves the page", t.page(x), "1");
        t.due("define leaves the entries", x.entries(), 2);
        t.due("run B", x.run('B', 9), 1);
        t.due("page", t.page(x), "2");
        t.due("define A", t.define(x, 'A', "pqr.p"), 3);
        t.due("parameters A", x.parameters('A'), 3);
        t.due("run B", x.run('B', 9), 1);
        t.due("page", t.page(x), "\\");
        t.due("define A", t.define(x, 'A', ".~"), 0);
        t.due("parameters A", x.parameters('A'), 0);
        t.due("parameters Z", x.parameters('Z'), 1);
        t.due("parameters C", x.parameters('C'), LazyGraphs.NONE);
        // A definition keeps its text, whatever is typed behind it.
        t.typeAll(x, ".34567");
        t.due("run B", x.run('B', 9), 2);
        t.due("page", t.page(x), "[]");
    }

    private static void parameters(Tester t) {
        t.reads(".1", 0);
        t.reads("a.a", 1);
        t.reads("ab.b", 2);
        t.reads("zyx.z", 3);
        t.reads("abcd.d", 4);
        t.reads("abcd." + Tester.sum(18), 4);
    }

    private static void faults(Tester t) {
        LazyGraphs x = new LazyGraphs();
        t.due("define of nothing", x.define('A'), -1);
        t.due("define of a wrong first character", t.define(x, 'A', "?"), -1);
        t.due("define of a wrong second character", t.define(x, 'A', "a?"), -2);
        t.due("define of a wrong last character", t.define(x, 'A', "a." + Tester.sum(19) + "1"), -40);
        t.due("define of 40 that want more", t.define(x, 'A', "." + Tester.sum(20).substring(0, 38) + "+"), -41);
        // With a fault, what is not bound does not count.
        t.due("define of a fault behind what is not bound", t.define(x, 'A', ".xy"), -3);
    }

    private static void strays(Tester t) {
        LazyGraphs x = new LazyGraphs();
        t.due("define of the first stray", t.define(x, 'A', ".x"), -101);
        t.due("define of the last stray", t.define(x, 'A', "." + Tester.sum(20).substring(0, 38) + "x"), -139);
        t.due("define of two strays", t.define(x, 'A', "a.+bc"), -103);
    }

    private static void staysWithFaultOrStray(Tester t) {
        LazyGraphs x = t.with("A.:8~", "Bxy.x");
        for (String wrong : new String[] {"", "ab", ".12", ".y", "p.q"}) {
            t.due("define A " + wrong, t.define(x, 'A', wrong) < 0, true);
            t.due("define B " + wrong, t.define(x, 'B', wrong) < 0, true);
            t.due("define C " + wrong, t.define(x, 'C', wrong) < 0, true);
            t.due("parameters A", x.parameters('A'), 0);
            t.due("parameters B", x.parameters('B'), 2);
            t.due("parameters C", x.parameters('C'), LazyGraphs.NONE);
            t.due("run A", x.run('A', 1), 3);
            t.due("page", t.page(x), "[8]");
        }
    }

    private static void wrongLetters(Tester t) {
        for (char wrong : "a@[z0 \u0000\uffff\u0141".toCharArray()) {
            LazyGraphs x = new LazyGraphs();
            t.throwing("define " + (int) wrong, IllegalArgumentException.class, () -> x.define(wrong));
            t.typeAll(x, "a.a");
            t.throwing("define " + (int) wrong, IllegalArgumentException.class, () -> x.define(wrong));
            t.due("a wrong letter leaves the text", x.define('Z'), 1);
            t.due("parameters Z", x.parameters('Z'), 1);
        }
        t.due("define A", t.define(new LazyGraphs(), 'A', ".1"), 0);
        t.due("define Z", t.define(new LazyGraphs(), 'Z', ".1"), 0);
    }
}
