/** Promise 1: a new object. */
final class NewObjectTest {
    public static void main(String[] args) {
        Tester t = new Tester();
        LazyGraphs x = new LazyGraphs();
        for (char letter = 'A'; letter <= 'Z'; letter++) {
            t.due("parameters " + letter, x.parameters(letter), LazyGraphs.NONE);
        }
        t.due("length", x.length(), 0);
        t.due("charAt 0", x.charAt(0), ' ');
        t.due("entries", x.entries(), 0);
        t.due("wipe", x.wipe(), 0);
        t.due("define of the empty text", x.define('A'), -1);

        LazyGraphs used = t.with("A.:1~", "Bx.x");
        used.run('A', 3);
        t.typeAll(used, "abc");
        LazyGraphs other = new LazyGraphs();
        t.due("another object's letter", other.parameters('B'), LazyGraphs.NONE);
        t.due("another object's page", other.length(), 0);
        t.due("another object's entries", other.entries(), 0);
        t.due("another object's text", other.wipe(), 0);
        t.due("the first object's text", used.wipe(), 3);
        t.due("the first object's page", t.page(used), "[1]");
        t.finish("NewObjectTest");
    }
}
