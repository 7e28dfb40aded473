/** Promises 2 and 3: type and wipe. */
final class TypeTest {
    public static void main(String[] args) {
        Tester t = new Tester();
        t.sentence("Appends a character to the text: true", TypeTest::appending);
        t.sentence("false when c is not 32 .. 126", TypeTest::wrongCharacters);
        t.sentence("false when there are 40", TypeTest::fullText);
        t.sentence("The text is empty; how many characters it had.", TypeTest::wiping);
        t.sentence("wipe: the text alone is empty", TypeTest::wipingNothingElse);
        t.finish("TypeTest");
    }

    private static void appending(Tester t) {
        for (char c = 32; c <= 126; c++) {
            LazyGraphs x = new LazyGraphs();
            t.due("type " + c, x.type(c), true);
            t.due("wipe", x.wipe(), 1);
        }
        LazyGraphs x = new LazyGraphs();
        t.due("define", t.define(x, 'A', ".-73"), 0);
        t.due("run", x.run('A', 1), 1);
        t.due("the characters stand in their order", t.page(x), "4");
    }

    private static void wrongCharacters(Tester t) {
        for (int c = 0; c <= Character.MAX_VALUE; c++) {
            if (c < 32 || c > 126) {
                LazyGraphs x = new LazyGraphs();
                t.due("type " + c, x.type((char) c), false);
                t.due("wipe behind type " + c, x.wipe(), 0);
            }
        }
        LazyGraphs x = new LazyGraphs();
        t.typeAll(x, ".");
        t.due("type 31", x.type((char) 31), false);
        t.due("type 127", x.type((char) 127), false);
        // Cut to eight bits this would be a 7.
        t.due("type 256 + 55", x.type((char) (256 + '7')), false);
        t.due("define of what was taken", t.define(x, 'A', "7"), 0);
    }

    private static void fullText(Tester t) {
        LazyGraphs x = new LazyGraphs();
        String longest = "." + Tester.sum(20);
        t.due("characters", longest.length(), 40);
        t.typeAll(x, longest);
        t.due("type with 40", x.type('5'), false);
        t.due("type of a wrong one with 40", x.type('\n'), false);
        t.due("type with 40 again", x.type('5'), false);
        t.due("define of 40 characters", x.define('A'), 0);
        t.due("run of 40 characters", x.run('A', 1), 2);
        t.due("page", t.page(x), "20");
        t.due("type behind define", x.type('5'), true);
    }

    private static void wiping(Tester t) {
        LazyGraphs x = new LazyGraphs();
        for (int count : new int[] {0, 1, 39, 40, 2, 0}) {
            t.typeAll(x, "1".repeat(count));
            t.due("wipe with " + count, x.wipe(), count);
            t.due("wipe again", x.wipe(), 0);
        }
        t.typeAll(x, "x".repeat(40));
        t.due("wipe with 40", x.wipe(), 40);
        t.due("define of the empty text", x.define('A'), -1);
        t.due("define behind wipe", t.define(x, 'B', ".2"), 0);
    }

    private static void wipingNothingElse(Tester t) {
        LazyGraphs x = t.with("A.1");
        x.run('A', 1);
        t.typeAll(x, "x.x");
        t.due("wipe", x.wipe(), 3);
        t.due("wipe leaves the letters", x.parameters('A'), 0);
        t.due("wipe leaves the page", t.page(x), "1");
        t.due("wipe leaves the entries", x.entries(), 1);
    }
}
