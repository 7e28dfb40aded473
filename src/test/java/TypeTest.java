/** Promises 2 and 3: type and wipe. */
final class TypeTest {
    public static void main(String[] args) {
        Tester t = new Tester();
        characters(t);
        fullText(t);
        wiping(t);
        t.finish("TypeTest");
    }

    private static void characters(Tester t) {
        LazyGraphs x = new LazyGraphs();
        for (int c = 0; c <= Character.MAX_VALUE; c++) {
            boolean fits = c >= 32 && c <= 126;
            t.due("type " + c, x.type((char) c), fits);
            t.due("wipe behind type " + c, x.wipe(), fits ? 1 : 0);
        }
        t.typeAll(x, ".");
        t.due("type 31", x.type((char) 31), false);
        t.due("type 127", x.type((char) 127), false);
        t.due("define of what was taken", t.define(x, 'A', "7"), 0);
    }

    private static void fullText(Tester t) {
        LazyGraphs x = new LazyGraphs();
        String longest = "." + sum(20);
        t.due("characters", longest.length(), 40);
        t.typeAll(x, longest);
        t.due("type with 40", x.type('5'), false);
        t.due("type of a wrong one with 40", x.type('\n'), false);
        t.due("wipe with 40", x.wipe(), 40);
        t.due("type behind wipe", x.type('5'), true);
        t.due("wipe", x.wipe(), 1);

        t.typeAll(x, longest.substring(0, 39));
        t.due("define of 39 characters without the last", x.define('A'), -40);
        t.typeAll(x, longest.substring(0, 39) + "+");
        t.due("type with 40", x.type('1'), false);
        t.due("define of 40 characters that go on", x.define('A'), -41);
        t.typeAll(x, longest);
        t.due("type with 40", x.type('1'), false);
        t.due("define of 40 characters", x.define('A'), 0);
        t.due("run of 40 characters", x.run('A', 1), 2);
        t.due("page", t.page(x), "20");
    }

    /** A sum of so many ones that lies no deeper than it must. */
    private static String sum(int ones) {
        return ones == 1 ? "1" : "+" + sum(ones / 2) + sum(ones - ones / 2);
    }

    private static void wiping(Tester t) {
        LazyGraphs x = t.with("A.1");
        x.run('A', 1);
        t.typeAll(x, "x.x");
        t.due("wipe", x.wipe(), 3);
        t.due("wipe again", x.wipe(), 0);
        t.due("wipe leaves the letters", x.parameters('A'), 0);
        t.due("wipe leaves the page", t.page(x), "1");
        t.due("wipe leaves the entries", x.entries(), 1);
        t.due("define behind wipe", t.define(x, 'B', ".2"), 0);
    }
}
