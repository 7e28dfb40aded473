/** Promises 5 and 6: forget and parameters. */
final class ForgetTest {
    private static final String WRONG_LETTERS = "a@[z0. \u0000\uffff\u0141";

    public static void main(String[] args) {
        Tester t = new Tester();
        t.sentence("forget: The letter stands for nothing.", ForgetTest::standsForNothing);
        t.sentence("forget: IllegalArgument: letter is not A .. Z.", ForgetTest::wrongLetters);
        t.sentence("forget: IllegalState: it stood for nothing.", ForgetTest::stoodForNothing);
        t.sentence("How many parameters the letter's definition has", ForgetTest::counts);
        t.sentence("NONE when it stands for nothing", ForgetTest::nothing);
        t.sentence("parameters: NONE when it is no letter", ForgetTest::noLetter);
        t.finish("ForgetTest");
    }

    private static void standsForNothing(Tester t) {
        LazyGraphs x = t.with("A.B", "B.1", "Zabcd.a");
        x.run('A', 5);
        t.typeAll(x, ".3");
        x.forget('B');
        t.due("parameters of a forgotten letter", x.parameters('B'), LazyGraphs.NONE);
        t.due("parameters of another letter", x.parameters('Z'), 4);
        t.due("forget leaves the page", t.page(x), "1");
        t.due("forget leaves the entries", x.entries(), 2);
        t.throwing("run of a forgotten letter", IllegalStateException.class, () -> x.run('B', 1));
        t.due("run with a forgotten letter", x.run('A', 5), LazyGraphs.BAD);
        t.due("forget leaves the text", x.define('B'), 0);
        t.due("run with the new letter", x.run('A', 5), 1);
        t.due("page", t.page(x), "3");
        x.forget('A');
        x.forget('Z');
        t.due("forget of A", x.parameters('A'), LazyGraphs.NONE);
        t.due("forget of Z", x.parameters('Z'), LazyGraphs.NONE);
        t.due("B", x.parameters('B'), 0);
    }

    private static void wrongLetters(Tester t) {
        LazyGraphs x = t.with("A.1", "Zx.x");
        for (char wrong : WRONG_LETTERS.toCharArray()) {
            t.throwing("forget " + (int) wrong, IllegalArgumentException.class, () -> x.forget(wrong));
        }
        t.due("parameters A", x.parameters('A'), 0);
        t.due("parameters Z", x.parameters('Z'), 1);
    }

    private static void stoodForNothing(Tester t) {
        LazyGraphs x = t.with("B.1");
        t.throwing("forget A", IllegalStateException.class, () -> x.forget('A'));
        t.throwing("forget Z", IllegalStateException.class, () -> x.forget('Z'));
        x.forget('B');
        t.throwing("forget again", IllegalStateException.class, () -> x.forget('B'));
        t.due("define of a fault", t.define(x, 'B', ".12"), -3);
        t.throwing("forget behind a fault", IllegalStateException.class, () -> x.forget('B'));
        t.due("define again", t.define(x, 'B', ".2"), 0);
        x.forget('B');
        t.due("parameters B", x.parameters('B'), LazyGraphs.NONE);
    }

    private static void counts(Tester t) {
        LazyGraphs x = t.with("A.1", "Ba.1", "Cab.1", "Dabc.1", "Zabcd.1");
        String letters = "ABCDZ";
        for (int count = 0; count < letters.length(); count++) {
            t.due("parameters", x.parameters(letters.charAt(count)), count);
        }
    }

    private static void nothing(Tester t) {
        LazyGraphs x = t.with("B.1");
        for (char letter = 'A'; letter <= 'Z'; letter++) {
            t.due("parameters " + letter, x.parameters(letter), letter == 'B' ? 0 : LazyGraphs.NONE);
        }
        x.forget('B');
        t.due("parameters B", x.parameters('B'), LazyGraphs.NONE);
    }

    private static void noLetter(Tester t) {
        LazyGraphs x = t.with("A.1", "Zx.x");
        for (char wrong : WRONG_LETTERS.toCharArray()) {
            t.due("parameters " + (int) wrong, x.parameters(wrong), LazyGraphs.NONE);
        }
    }
}
