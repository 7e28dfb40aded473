/** Promise 7: run. What a run works out and writes is tested in WorkingOutTest and WritingTest. */
final class RunTest {
    private static final String[] PROGRAM = {"A.:B:(D2)~", "B.3", "C.:1:C2", "Da.+aa", "E.E", "G.(DG)"};

    public static void main(String[] args) {
        Tester t = new Tester();
        t.sentence("The page is empty; then a RUN of the letter", RunTest::emptyPage);
        t.sentence("a RUN of the letter, which may have so many entries", RunTest::allowedEntries);
        t.sentence("Answers how many characters the page has, or what ended the run.", RunTest::answers);
        t.sentence("run: IllegalArgument: letter is not A .. Z", RunTest::wrongLetters);
        t.sentence("run: IllegalArgument: entries not 1 .. 50", RunTest::wrongEntries);
        t.sentence("run: IllegalState: it stands for nothing.", RunTest::standsForNothing);
        t.sentence("A RUN of a letter, whatever the one before it left", RunTest::runsApart);
        t.sentence("A RUN of a letter, with what the letters stand for then", RunTest::changedLetters);
        t.finish("RunTest");
    }

    private static void emptyPage(Tester t) {
        LazyGraphs x = t.with("L.:1L", "N.7", "S.Z", "E.~");
        x.run('L', 1);
        t.due("length", x.length(), 60);
        x.run('N', 1);
        t.due("page", t.page(x), "7");
        t.due("a space behind it", x.charAt(1), ' ');
        x.run('L', 1);
        x.run('S', 1);
        t.due("length of a run that writes nothing", x.length(), 0);
        t.due("no character of the run before", x.charAt(0), ' ');
        x.run('E', 1);
        x.run('E', 1);
        t.due("page of the same run twice", t.page(x), "[]");
    }

    private static void allowedEntries(Tester t) {
        // As many entries as the number of letters that stand in one another.
        String count = "Fn.?n(F-n1)5";
        for (int deep = 0; deep <= 9; deep++) {
            String start = "A.(F" + deep + ")";
            int due = deep + 2;
            t.run(due, 1, "5", due, start, count);
            t.run(due - 1, LazyGraphs.OUT, "", due - 1, start, count);
            t.run(50, 1, "5", due, start, count);
        }
        t.run(50, 1, "5", 50, "A.(F*68)", count);
        t.run(49, LazyGraphs.OUT, "", 49, "A.(F*68)", count);
        t.run(50, LazyGraphs.OUT, "", 50, "A.(F+1*68)", count);
        // Of one run, not of all together.
        LazyGraphs x = t.with("A.B", "B.1");
        for (int run = 0; run < 60; run++) {
            t.due("run " + run, x.run('A', 2), 1);
        }
    }

    private static void answers(Tester t) {
        LazyGraphs x = t.with("A.1", "B.~", "C.:+91(F*47)", "Fn.?n:1(F-n1)~", "O.(FA)", "Y.Z", "P.P", "L.:1L");
        t.due("run of a number", x.run('A', 50), 1);
        t.due("run of the empty list", x.run('B', 50), 2);
        t.due("run that fills the page", x.run('C', 50), 60);
        t.due("run out of entries", x.run('O', 1), LazyGraphs.OUT);
        t.due("run out of entries", x.run('C', 1), LazyGraphs.OUT);
        t.due("run of a letter that stands for nothing", x.run('Y', 50), LazyGraphs.BAD);
        t.due("run of a loop", x.run('P', 50), LazyGraphs.LOOP);
        t.due("run of an endless list", x.run('L', 50), LazyGraphs.LONG);
        t.due("run of a function", x.run('F', 50), 1);
    }

    private static void wrongLetters(Tester t) {
        LazyGraphs x = t.with("A.1", "Z.2");
        for (char wrong : "a@[z0. \u0000\uffff\u0141".toCharArray()) {
            t.throwing("run " + (int) wrong, IllegalArgumentException.class, () -> x.run(wrong, 1));
        }
        t.due("run A", x.run('A', 1), 1);
        t.due("run Z", x.run('Z', 1), 1);
    }

    private static void wrongEntries(Tester t) {
        LazyGraphs x = t.with("A.1", "Fx.x");
        for (int wrong : new int[] {0, 51, -1, -50, 52, 257, 1000, Integer.MIN_VALUE, Integer.MAX_VALUE}) {
            t.throwing("run A, " + wrong, IllegalArgumentException.class, () -> x.run('A', wrong));
            // Even where no entry is needed.
            t.throwing("run F, " + wrong, IllegalArgumentException.class, () -> x.run('F', wrong));
        }
        for (int entries = 1; entries <= 50; entries++) {
            t.due("run A, " + entries, x.run('A', entries), 1);
        }
    }

    private static void standsForNothing(Tester t) {
        LazyGraphs x = t.with("B.1");
        for (char letter : "ACZ".toCharArray()) {
            t.throwing("run " + letter + ", 1", IllegalStateException.class, () -> x.run(letter, 1));
            t.throwing("run " + letter + ", 50", IllegalStateException.class, () -> x.run(letter, 50));
        }
        x.forget('B');
        t.throwing("run of a forgotten letter", IllegalStateException.class, () -> x.run('B', 1));
    }

    private static void runsApart(Tester t) {
        LazyGraphs x = t.with(PROGRAM);
        for (char letter : "AECGBAGDA".toCharArray()) {
            LazyGraphs fresh = t.with(PROGRAM);
            for (int entries = 1; entries <= 4; entries++) {
                String call = "run " + letter + ", " + entries;
                t.due(call, x.run(letter, entries), fresh.run(letter, entries));
                t.due(call + ": page", t.page(x), t.page(fresh));
                t.due(call + ": entries", x.entries(), fresh.entries());
            }
        }
    }

    private static void changedLetters(Tester t) {
        LazyGraphs x = t.with(PROGRAM);
        t.due("run A", x.run('A', 9), 5);
        t.due("page", t.page(x), "[3,4]");
        t.define(x, 'B', ".(D3)");
        t.due("run A with another B", x.run('A', 9), 5);
        t.due("page", t.page(x), "[6,4]");
        t.due("entries", x.entries(), 4);
        x.forget('D');
        t.due("run A without D", x.run('A', 9), LazyGraphs.BAD);
        t.due("page", t.page(x), "[");
    }
}
