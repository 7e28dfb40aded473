/** Promise 1: a new object; and how many calls an object has. */
final class NewObjectTest {
    public static void main(String[] args) {
        Tester t = new Tester();
        t.sentence("An object is used for at most 512 calls after it has been made", NewObjectTest::calls);
        t.sentence("Nothing is defined", NewObjectTest::nothingDefined);
        t.sentence("an empty text", NewObjectTest::emptyText);
        t.sentence("an empty page", NewObjectTest::emptyPage);
        t.sentence("A new object, while others are in use", NewObjectTest::objectsApart);
        t.finish("NewObjectTest");
    }

    private static void calls(Tester t) {
        LazyGraphs x = new LazyGraphs();
        String longest = "." + Tester.sum(20);
        for (int n = 0; n < 12; n++) {
            t.due("define " + n, t.define(x, (char) ('A' + n), longest), 0);
        }
        // 12 times 40 + 1 calls are over.
        for (int call = 493; call < 512; call++) {
            t.due("call " + call + ", run", x.run('L', 50), 2);
        }
        t.due("call 512, charAt", x.charAt(0), '2');

        LazyGraphs refused = new LazyGraphs();
        for (int call = 1; call < 512; call++) {
            t.throwing("call " + call + ", forget", IllegalStateException.class, () -> refused.forget('A'));
        }
        t.due("call 512, define", refused.define('A'), -1);
    }

    private static void nothingDefined(Tester t) {
        for (char letter = 'A'; letter <= 'Z'; letter++) {
            char l = letter;
            LazyGraphs x = new LazyGraphs();
            t.due("parameters " + l, x.parameters(l), LazyGraphs.NONE);
            t.throwing("forget " + l, IllegalStateException.class, () -> x.forget(l));
            t.throwing("run " + l, IllegalStateException.class, () -> x.run(l, 50));
        }
    }

    private static void emptyText(Tester t) {
        t.due("wipe", new LazyGraphs().wipe(), 0);
        t.due("define", new LazyGraphs().define('A'), -1);
        t.reads(".1", 0);
    }

    private static void emptyPage(Tester t) {
        LazyGraphs x = new LazyGraphs();
        t.due("length", x.length(), 0);
        t.due("charAt 0", x.charAt(0), ' ');
        t.due("charAt 59", x.charAt(59), ' ');
        t.due("entries", x.entries(), 0);
    }

    private static void objectsApart(Tester t) {
        LazyGraphs used = t.with("A.:1~", "Bx.x");
        used.run('A', 3);
        t.typeAll(used, "abc");
        LazyGraphs other = new LazyGraphs();
        t.due("another object's letter", other.parameters('B'), LazyGraphs.NONE);
        t.due("another object's page", other.length(), 0);
        t.due("another object's entries", other.entries(), 0);
        t.due("another object's text", other.wipe(), 0);
        t.due("the first object's text", used.wipe(), 3);
        t.due("the first object's page", t.page(used), "[1]");
        t.due("the first object's entries", used.entries(), 1);
    }
}
