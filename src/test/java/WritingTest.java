/** What a run writes, under "Terms": a test for each sentence that names a boundary. */
final class WritingTest {
    public static void main(String[] args) {
        Tester t = new Tester();
        t.sentence("a number in decimal digits, behind a minus sign if it is below 0", WritingTest::digits);
        t.sentence("a number in decimal digits: the least and the greatest int", WritingTest::leastAndGreatest);
        t.sentence("a function as \\", WritingTest::functions);
        t.sentence("the empty list as []", WritingTest::emptyLists);
        t.sentence("a pair as [, then the promise that it begins with is needed and its value written likewise, then"
            + " the promise that it goes on with is needed: when that is a pair, a comma is written and it goes on with"
            + " this pair's two promises in the same way, when it is the empty list, a ]",
            WritingTest::pairs);
        t.sentence("[, then what it begins with, then what it goes on with, then a comma", WritingTest::inOrder);
        t.sentence("else the run ends with BAD", WritingTest::badEnds);
        t.sentence("What is written comes on the page character by character; when the page has 60",
            WritingTest::exactlyFull);
        t.sentence("one more ends the run with LONG", WritingTest::tooLong);
        t.sentence("when the page has 60, one more ends the run: not the 60th one", WritingTest::fullBeforeTheEnd);
        t.sentence("What was written before a run's end stays.", WritingTest::stays);
        t.finish("WritingTest");
    }

    private static void digits(Tester t) {
        for (int digit = 0; digit <= 9; digit++) {
            t.writes("" + digit, 1, "A." + digit);
        }
        t.writes("-1", 1, "A.-01");
        t.writes("-9", 1, "A.-09");
        t.writes("0", 1, "A.-11");
        // Ten, a hundred .. up to the greatest that an int can be, and those next to them.
        long power = 10;
        for (int tens = 1; tens <= 9; tens++) {
            String product = "*".repeat(tens - 1) + "T".repeat(tens);
            String letter = "P." + product;
            t.writes("" + power, 3, "A.P", letter, "T.+91");
            t.writes("" + (power - 1), 3, "A.-P1", letter, "T.+91");
            t.writes("" + (power + 1), 3, "A.+P1", letter, "T.+91");
            t.writes("" + -power, 3, "A.-0P", letter, "T.+91");
            t.writes("" + (1 - power), 3, "A.-1P", letter, "T.+91");
            power *= 10;
        }
    }

    private static void leastAndGreatest(Tester t) {
        t.writes("-2147483648", 3, "A.*C*8*8*8*88", "C.*BB", "B.*4*88");
        t.writes("2147483647", 3, "A.-*C*8*8*8*881", "C.*BB", "B.*4*88");
        t.writes("-2147483647", 3, "A.+*C*8*8*8*881", "C.*BB", "B.*4*88");
    }

    private static void functions(Tester t) {
        t.writes("\\", 0, "Ax.x");
        t.writes("\\", 1, "A.F", "Fx.x");
        t.writes("\\", 1, "A.(F123)", "Fabcd.a");
        t.writes("[\\]", 1, "A.:F~", "Fx.x");
    }

    private static void emptyLists(Tester t) {
        t.writes("[]", 1, "A.~");
        t.writes("[[]]", 1, "A.:~~");
        t.writes("[[],[]]", 1, "A.:~:~~");
    }

    private static void pairs(Tester t) {
        t.writes("[1]", 1, "A.:1~");
        t.writes("[1,2]", 1, "A.:1:2~");
        t.writes("[1,2,3]", 1, "A.:1:2:3~");
        t.writes("[[1]]", 1, "A.::1~~");
        t.writes("[[1],2]", 1, "A.::1~:2~");
        t.writes("[1,[2]]", 1, "A.:1::2~~");
        t.writes("[[[]]]", 1, "A.::~~~");
        t.writes("[[1,2],[[3]],\\,-4]", 1, "A.::1:2~:::3~~:F:-04~", "Fx.x");
    }

    /** What is needed first comes first on the page, and among the ends of the run. */
    private static void inOrder(Tester t) {
        t.bad("[", 1, "A.:ZA");
        t.loop("[", 1, "A.:$xxxZ");
        t.bad("[1", 1, "A.:1Z");
        t.loop("[1", 1, "A.:1$xxx");
        t.bad("[1,", 1, "A.:1:Z~");
        t.bad("[1,[2", 1, "A.:1::2Z~");
        t.bad("[[1],[]", 1, "A.::1~:~Z");
    }

    private static void badEnds(Tester t) {
        t.bad("[1", 1, "A.:12");
        t.bad("[1", 1, "A.:10");
        t.bad("[1", 1, "A.:1F", "Fx.x");
        t.bad("[1,2", 1, "A.:1:23");
        t.bad("[1,[]", 1, "A.:1:~3");
        t.bad("[[1", 1, "A.::12~");
        t.bad("[[1]", 1, "A.::1~2");
    }

    /** Lists of n times 1 have 2n + 1 characters, so that one with a 10 in it can have 60. */
    private static void exactlyFull(Tester t) {
        String list = "Fn.?n:1(F-n1)~";
        t.run(50, 59, "[" + "1,".repeat(28) + "1]", 31, "A.(F+5*46)", list);
        t.run(50, 60, "[10," + "1,".repeat(27) + "1]", 30, "A.:+91(F*47)", list);
    }

    /** Each sign that can be written, as the one that finds the page full. */
    private static void tooLong(Tester t) {
        tooLong(t, "[1" + ",1".repeat(29), 1, "A.$x:1xx");
        tooLong(t, "[".repeat(60), 1, "A.$x:xxx");
        tooLong(t, "[7," + "[],".repeat(19), 1, "A.:7$x:~xx");
        tooLong(t, "[100," + "[],".repeat(18) + "[", 1, "A.:*+91+91$x:~xx");
        tooLong(t, "[" + "[],".repeat(19) + "[]", 1, "A.$x:~xx");
        tooLong(t, "[10," + "\\,".repeat(28), 1, "A.:+91$x:Fxx", "Fx.x");
        tooLong(t, "[" + "\\,".repeat(29) + "\\", 1, "A.$x:Fxx", "Fx.x");
        tooLong(t, "[7," + "12,".repeat(19), 1, "A.:7$x:*34xx");
        tooLong(t, "[100," + "12,".repeat(18) + "1", 1, "A.:*+91+91$x:*34xx");
        tooLong(t, "[7," + "-7,".repeat(19), 1, "A.:7$x:-07xx");
        tooLong(t, "[100," + "-7,".repeat(18) + "-", 1, "A.:*+91+91$x:-07xx");
        tooLong(t, "[[" + "1,".repeat(29), 1, "A.:$x:1xx~");
        String list = "Fn.?n:1(F-n1)~";
        tooLong(t, "[100," + "1,".repeat(27) + "1", 30, "A.:*+91+91(F*47)", list);
        tooLong(t, "[1" + ",1".repeat(29), 32, "A.(F*56)", list);
        // The inner list is closed with the 60th sign.
        tooLong(t, "[[" + "1,".repeat(28) + "1]", 31, "A.:(F+5*46)~", list);
    }

    private static void tooLong(Tester t, String page, int entered, String... definitions) {
        t.due("characters of " + page, page.length(), 60);
        t.run(50, LazyGraphs.LONG, page, entered, definitions);
    }

    /** With a full page, what is needed before the next sign is written can still end the run otherwise. */
    private static void fullBeforeTheEnd(Tester t) {
        String full = "[1" + ",1".repeat(29);
        t.bad(full, 32, "A.(F*56)", "Fn.?n:1(F-n1)Z");
        t.bad(full, 32, "A.(F*56)", "Fn.?n:1(F-n1)2");
        t.loop(full, 32, "A.(F*56)", "Fn.?n:1(F-n1)$xxx");
        t.run(31, LazyGraphs.OUT, full, 31, "A.(F*56)", "Fn.?n:1(F-n1)~");
    }

    private static void stays(Tester t) {
        t.run(1, LazyGraphs.OUT, "[1,", 1, "A.:1:(I2)~", "Ix.x");
        t.run(1, LazyGraphs.OUT, "[", 1, "A.:B~", "B.1");
        t.run(1, LazyGraphs.BAD, "[1,2", 1, "A.:1:23");
        t.run(1, LazyGraphs.LOOP, "[1,2", 1, "A.:1:2$xxx");
        t.run(1, LazyGraphs.LONG, "[1" + ",1".repeat(29), 1, "A.:1A");
    }
}
