/** Promises 9 and 10: length and charAt. */
final class PageTest {
    private static final String FULL = "[" + "1,".repeat(29) + "1";

    public static void main(String[] args) {
        Tester t = new Tester();
        t.sentence("How many characters the page has.", PageTest::length);
        t.sentence("Character p of the page", PageTest::characters);
        t.sentence("charAt: a space when there is none", PageTest::none);
        t.finish("PageTest");
    }

    private static LazyGraphs made(Tester t) {
        return t.with("A.:1:-02:I:~~", "Ix.x", "L.$x:1xx", "N.7", "B.:1Z", "S.(Z1)");
    }

    private static void length(Tester t) {
        LazyGraphs x = made(t);
        t.due("length before a run", x.length(), 0);
        t.due("run A", x.run('A', 1), 11);
        t.due("length of a whole page", x.length(), 11);
        t.due("run L", x.run('L', 1), LazyGraphs.LONG);
        t.due("length of a full page", x.length(), 60);
        t.due("run B", x.run('B', 1), LazyGraphs.BAD);
        t.due("length of what was written before the end", x.length(), 2);
        t.throwing("run Z", IllegalStateException.class, () -> x.run('Z', 1));
        t.due("length behind a call that throws", x.length(), 2);
        t.due("run S", x.run('S', 1), LazyGraphs.BAD);
        t.due("length of an empty page", x.length(), 0);
    }

    private static void characters(Tester t) {
        LazyGraphs x = made(t);
        page(t, x, 'A', "[1,-2,\\,[]]");
        page(t, x, 'N', "7");
        page(t, x, 'L', FULL);
        page(t, x, 'B', "[1");
        page(t, x, 'I', "\\");
    }

    private static void page(Tester t, LazyGraphs x, char letter, String want) {
        x.run(letter, 1);
        for (int p = 0; p < want.length(); p++) {
            t.due("charAt " + p + " of " + want, x.charAt(p), want.charAt(p));
        }
    }

    private static void none(Tester t) {
        noneBeyond(t, made(t), 0);
        LazyGraphs x = made(t);
        x.run('L', 1);
        noneBeyond(t, x, 60);
        x.run('A', 1);
        noneBeyond(t, x, 11);
        x.run('N', 1);
        noneBeyond(t, x, 1);
        x.run('S', 1);
        noneBeyond(t, x, 0);
    }

    private static void noneBeyond(Tester t, LazyGraphs x, int length) {
        for (int p = length; p < 65; p++) {
            t.due("charAt " + p + " with " + length, x.charAt(p), ' ');
        }
        for (int p : new int[] {-1, -2, -60, Integer.MIN_VALUE, Integer.MAX_VALUE, 256, 1000}) {
            t.due("charAt " + p + " with " + length, x.charAt(p), ' ');
        }
    }
}
