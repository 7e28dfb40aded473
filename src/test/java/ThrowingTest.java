/** Under "Terms": calls that throw. Which ones do is tested with each promise. */
final class ThrowingTest {
    public static void main(String[] args) {
        Tester t = new Tester();
        t.sentence("A call that throws changes nothing", ThrowingTest::changesNothing);
        t.sentence("where it lists more than one exception, the first one wins", ThrowingTest::firstOneWins);
        t.finish("ThrowingTest");
    }

    private static LazyGraphs used(Tester t) {
        LazyGraphs x = t.with("A.:1:2~", "B.A", "Zxy.x");
        x.run('B', 5);
        t.typeAll(x, "p.p");
        return x;
    }

    /** All that can be seen of an object without changing it. */
    private static String seen(LazyGraphs x) {
        StringBuilder s = new StringBuilder();
        for (char letter = 'A'; letter <= 'Z'; letter++) {
            s.append(x.parameters(letter)).append(' ');
        }
        s.append(x.entries()).append(' ').append(x.length()).append(' ');
        for (int p = 0; p < 60; p++) {
            s.append(x.charAt(p));
        }
        return s.toString();
    }

    private static void changesNothing(Tester t) {
        changesNothing(t, "define a", IllegalArgumentException.class, x -> x.define('a'));
        changesNothing(t, "define [", IllegalArgumentException.class, x -> x.define('['));
        changesNothing(t, "forget @", IllegalArgumentException.class, x -> x.forget('@'));
        changesNothing(t, "forget C", IllegalStateException.class, x -> x.forget('C'));
        changesNothing(t, "run b, 1", IllegalArgumentException.class, x -> x.run('b', 1));
        changesNothing(t, "run A, 0", IllegalArgumentException.class, x -> x.run('A', 0));
        changesNothing(t, "run A, 51", IllegalArgumentException.class, x -> x.run('A', 51));
        changesNothing(t, "run C, 1", IllegalStateException.class, x -> x.run('C', 1));
    }

    private interface Call {
        void on(LazyGraphs x);
    }

    private static void changesNothing(Tester t, String call, Class<? extends RuntimeException> thrown, Call action) {
        LazyGraphs x = used(t);
        String before = seen(x);
        t.throwing(call, thrown, () -> action.on(x));
        t.due("what is seen behind " + call, seen(x), before);
        t.due("the text behind " + call, x.define('C'), 1);
        t.due("the next run behind " + call, x.run('B', 2), 5);
        t.due("the page of the next run behind " + call, t.page(x), "[1,2]");

        LazyGraphs fresh = new LazyGraphs();
        if (thrown == IllegalStateException.class) {
            t.throwing(call + " on a new object", thrown, () -> action.on(fresh));
            t.due("what is seen of a new object", seen(fresh), seen(new LazyGraphs()));
        }
        t.due("the text of a new object", fresh.wipe(), 0);
    }

    private static void firstOneWins(Tester t) {
        LazyGraphs x = used(t);
        for (char wrong : "a@[c\u0000\uffff".toCharArray()) {
            t.throwing("forget " + (int) wrong, IllegalArgumentException.class, () -> x.forget(wrong));
            t.throwing("run " + (int) wrong + ", 1", IllegalArgumentException.class, () -> x.run(wrong, 1));
            t.throwing("run " + (int) wrong + ", 0", IllegalArgumentException.class, () -> x.run(wrong, 0));
        }
        for (int wrong : new int[] {0, 51, -1, Integer.MIN_VALUE, Integer.MAX_VALUE}) {
            t.throwing("run C, " + wrong, IllegalArgumentException.class, () -> x.run('C', wrong));
        }
        t.throwing("run C, 1", IllegalStateException.class, () -> x.run('C', 1));
    }
}
