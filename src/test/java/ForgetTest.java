/** Promises 5 and 6: forget and parameters. */
final class ForgetTest {
    public static void main(String[] args) {
        Tester t = new Tester();
        forgetting(t);
        parameters(t);
        t.finish("ForgetTest");
    }

    private static void forgetting(Tester t) {
        LazyGraphs x = t.with("A.B", "B.1", "Zabcd.a");
        x.run('A', 5);
        t.typeAll(x, ".3");
        x.forget('B');
        t.due("parameters of a forgotten letter", x.parameters('B'), LazyGraphs.NONE);
        t.due("parameters of another letter", x.parameters('Z'), 4);
        t.due("forget leaves the page", t.page(x), "1");
        t.due("forget leaves the entries", x.entries(), 2);
        t.throwing("forget again", IllegalStateException.class, () -> x.forget('B'));
        t.throwing("run of a forgotten letter", IllegalStateException.class, () -> x.run('B', 1));
        t.due("run with a forgotten letter", x.run('A', 5), LazyGraphs.BAD);
        t.throwing("forget of nothing", IllegalStateException.class, () -> x.forget('C'));
        for (char wrong : "b@[z0 \u0000\uffff\u0142".toCharArray()) {
            t.throwing("forget " + (int) wrong, IllegalArgumentException.class, () -> x.forget(wrong));
        }
        t.due("forget leaves the text", x.define('B'), 0);
        t.due("run with the new letter", x.run('A', 5), 1);
        t.due("page", t.page(x), "3");
        x.forget('A');
        x.forget('Z');
        t.due("forget of A", x.parameters('A'), LazyGraphs.NONE);
        t.due("forget of Z", x.parameters('Z'), LazyGraphs.NONE);
        t.due("B", x.parameters('B'), 0);
    }

    private static void parameters(Tester t) {
        LazyGraphs x = t.with("A.1", "Ba.1", "Cab.1", "Dabc.1", "Zabcd.1");
        String letters = "ABCDZ";
        for (int count = 0; count < letters.length(); count++) {
            t.due("parameters", x.parameters(letters.charAt(count)), count);
        }
        for (char wrong : "Yabcz@[0. \u0000\uffff\u0141".toCharArray()) {
            t.due("parameters " + (int) wrong, x.parameters(wrong), LazyGraphs.NONE);
        }
    }
}
