/** Promises 9 and 10: length and charAt. */
final class PageTest {
    public static void main(String[] args) {
        Tester t = new Tester();
        LazyGraphs x = t.with("A.:1:-02:I:~~", "Ix.x", "L.$x:1xx", "N.7", "B.:1Z", "S.(Z1)");
        page(t, x, "");
        x.run('A', 1);
        page(t, x, "[1,-2,\\,[]]");
        x.run('L', 1);
        page(t, x, "[" + "1,".repeat(29) + "1");
        x.run('N', 1);
        page(t, x, "7");
        x.run('B', 1);
        page(t, x, "[1");
        t.throwing("run Z", IllegalStateException.class, () -> x.run('Z', 1));
        page(t, x, "[1");
        x.run('S', 1);
        page(t, x, "");
        x.run('I', 1);
        page(t, x, "\\");
        t.finish("PageTest");
    }

    private static void page(Tester t, LazyGraphs x, String want) {
        t.due("length of " + want, x.length(), want.length());
        for (int p = -3; p < 70; p++) {
            char due = p >= 0 && p < want.length() ? want.charAt(p) : ' ';
            t.due("charAt " + p + " of " + want, x.charAt(p), due);
        }
        for (int p : new int[] {Integer.MIN_VALUE, Integer.MAX_VALUE, 1000, -1000}) {
            t.due("charAt " + p + " of " + want, x.charAt(p), ' ');
        }
    }
}
