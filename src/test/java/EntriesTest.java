/** Promise 8: entries. */
final class EntriesTest {
    public static void main(String[] args) {
        Tester t = new Tester();
        t.sentence("entries: 0 before", EntriesTest::before);
        t.sentence("How many entries the latest run had", EntriesTest::latestRun);
        t.sentence("(the one that ended it with OUT is none)", EntriesTest::outIsNone);
        t.sentence("How many entries the latest run had: a call that throws is none", EntriesTest::throwingRuns);
        t.finish("EntriesTest");
    }

    private static void before(Tester t) {
        t.due("entries of a new object", new LazyGraphs().entries(), 0);
        LazyGraphs x = t.with("A.1");
        t.due("entries before a run", x.entries(), 0);
        t.throwing("run B", IllegalStateException.class, () -> x.run('B', 1));
        t.throwing("run A, 0", IllegalArgumentException.class, () -> x.run('A', 0));
        t.due("entries behind runs that throw", x.entries(), 0);
    }

    private static void seen(Tester t, LazyGraphs x, char letter, int entries, int answer, int entered) {
        t.due("run " + letter + ", " + entries, x.run(letter, entries), answer);
        t.due("entries of run " + letter + ", " + entries, x.entries(), entered);
        t.due("entries again", x.entries(), entered);
    }

    private static void latestRun(Tester t) {
        LazyGraphs x = t.with("A.(I(I1))", "Ix.x", "B.:CA", "C.A", "D.?A12", "E.(ZE)", "L.$x:1xx", "O.O");
        seen(t, x, 'I', 1, 1, 0);
        seen(t, x, 'A', 50, 1, 3);
        seen(t, x, 'B', 50, LazyGraphs.BAD, 5);
        seen(t, x, 'D', 50, 1, 4);
        seen(t, x, 'E', 50, LazyGraphs.BAD, 1);
        seen(t, x, 'L', 50, LazyGraphs.LONG, 1);
        seen(t, x, 'O', 50, LazyGraphs.LOOP, 1);
        seen(t, x, 'A', 3, 1, 3);
        seen(t, x, 'I', 50, 1, 0);
    }

    private static void outIsNone(Tester t) {
        LazyGraphs x = t.with("A.(I(I1))", "Ix.x", "B.C", "C.B", "E.(FE)", "Fx.(Fx)");
        seen(t, x, 'A', 2, LazyGraphs.OUT, 2);
        seen(t, x, 'A', 1, LazyGraphs.OUT, 1);
        seen(t, x, 'B', 1, LazyGraphs.OUT, 1);
        seen(t, x, 'B', 2, LazyGraphs.LOOP, 2);
        seen(t, x, 'E', 1, LazyGraphs.OUT, 1);
        seen(t, x, 'E', 49, LazyGraphs.OUT, 49);
        seen(t, x, 'E', 50, LazyGraphs.OUT, 50);
    }

    private static void throwingRuns(Tester t) {
        LazyGraphs x = t.with("A.(I(I1))", "Ix.x");
        seen(t, x, 'A', 50, 1, 3);
        t.throwing("run Z", IllegalStateException.class, () -> x.run('Z', 1));
        t.throwing("run a", IllegalArgumentException.class, () -> x.run('a', 1));
        t.throwing("run A, 0", IllegalArgumentException.class, () -> x.run('A', 0));
        t.throwing("run A, 51", IllegalArgumentException.class, () -> x.run('A', 51));
        t.due("entries behind throws", x.entries(), 3);
    }
}
