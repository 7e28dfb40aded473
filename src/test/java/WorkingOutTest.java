/** How expressions are worked out, under "Terms": a test for each sentence that names a boundary. */
final class WorkingOutTest {
    /** A letter that stands for the least int, and the greatest one, with what they need. */
    private static final String LEAST = "M.*C*8*8*8*88";
    private static final String GREATEST = "N.-*C*8*8*8*881";
    private static final String[] POWERS = {"C.*BB", "B.*4*88"};

    public static void main(String[] args) {
        Tester t = new Tester();
        t.sentence("FUNCTIONS: a letter that has parameters, with fewer promises than it has parameters",
            WorkingOutTest::functionValues);
        t.sentence("VALUES are numbers (ints)", WorkingOutTest::intValues);
        t.sentence("it is KEPT at most once: when it is needed for the first time it is worked out",
            WorkingOutTest::keptOnce);
        t.sentence("and then it is that value for good", WorkingOutTest::keptForGood);
        t.sentence("what is not needed is not worked out", WorkingOutTest::notNeeded);
        t.sentence("When it is needed while it is being worked out, the run ends with LOOP.", WorkingOutTest::loops);
        t.sentence("a variable: its promise is needed", WorkingOutTest::variables);
        t.sentence(": e f : a pair of promises of e and f", WorkingOutTest::pairs);
        t.sentence("A letter that stands for nothing: the run ends with BAD", WorkingOutTest::nothing);
        t.sentence("one that has parameters: the function with no promises", WorkingOutTest::withParameters);
        t.sentence("one that has none: it is a promise of its body, one for the whole run, which is needed",
            WorkingOutTest::withoutParameters);
        t.sentence("An application: the first expression is worked out, and then applied to the promises of the"
            + " arguments, from the left",
            WorkingOutTest::firstExpression);
        t.sentence("what is no function ends the run with BAD", WorkingOutTest::noFunction);
        t.sentence("as soon as it has as many as it has parameters, its letter is ENTERED with them: the body is worked"
            + " out, the parameters standing for the promises",
            WorkingOutTest::entered);
        t.sentence("and that value is applied to the next promise, if there is one, likewise",
            WorkingOutTest::argumentsLeft);
        t.sentence("+, -, *, <, = : the first one is worked out, and is no number: BAD; then the second likewise",
            WorkingOutTest::noNumbers);
        t.sentence("then the sum, difference or product", WorkingOutTest::arithmetic);
        t.sentence("the sum, difference or product, wrapping", WorkingOutTest::wrapping);
        t.sentence("or 1 if the first one is less, or the same, else 0", WorkingOutTest::comparisons);
        t.sentence("? : the first one is worked out, and is no number: BAD", WorkingOutTest::noChoice);
        t.sentence("then, if it is not 0, the second one, else the third", WorkingOutTest::choices);
        t.sentence("/ : the first one is worked out; if it is the empty list, the second one is",
            WorkingOutTest::emptyLists);
        t.sentence("if it is a pair, the third one, the variables standing for its two promises",
            WorkingOutTest::splitPairs);
        t.sentence("/ : else BAD", WorkingOutTest::noList);
        t.sentence("$ x e f : f is worked out, x standing for a promise of e, in which x stands for this promise too",
            WorkingOutTest::bindings);
        t.sentence("When a body is worked out, of a letter that is entered, or of one without parameters, this is an"
            + " ENTRY.",
            WorkingOutTest::entries);
        t.sentence("An entry beyond as many as the run may have ends it with OUT instead.",
            WorkingOutTest::entryBeyond);
        t.sentence("Promises that need promises, through all entries that a run may have", WorkingOutTest::depths);
        t.finish("WorkingOutTest");
    }

    private static void extreme(Tester t, String page, String body) {
        LazyGraphs x = t.with("A." + body, LEAST, GREATEST, POWERS[0], POWERS[1]);
        t.due("run of " + body, x.run('A', 9), page.length());
        t.due("page of " + body, t.page(x), page);
    }

    private static void functionValues(Tester t) {
        for (int count = 1; count <= 4; count++) {
            String letter = "F" + "wxyz".substring(4 - count) + ".z";
            t.writes("\\", 1, "A.F", letter);
            for (int promises = 1; promises < count; promises++) {
                t.writes("\\", 1, "A.(F" + "1234".substring(4 - promises) + ")", letter);
            }
            t.writes("4", 2, "A.(F" + "1234".substring(4 - count) + ")", letter);
        }
    }

    private static void intValues(Tester t) {
        extreme(t, "-2147483648", "M");
        extreme(t, "2147483647", "N");
        extreme(t, "[-2147483647,2147483646]", ":+M1:-N1~");
    }

    private static void keptOnce(Tester t) {
        String twice = "Da.+aa";
        t.writes("4", 2, "A.$x(D1)+xx", twice);
        t.writes("4", 3, "A.(D(D1))", twice);
        t.writes("4", 2, "A./:(D1)~~xy+xx", twice);
        t.writes("4", 2, "A./:~(D1)~xy+yy", twice);
        t.writes("4", 2, "A.+BB", "B.2");
        t.writes("[2,2]", 2, "A.$x(D1):x:x~", twice);
        // Not the promise, but two of the same words.
        t.writes("4", 3, "A.+(D1)(D1)", twice);
        // The promises that a function has taken are shared by all that is made of it.
        t.writes("[4,5]", 4, "A.$f(P(D1)):(f2):(f3)~", "Pxy.+xy", twice);
        t.writes("[91,92]", 3, "A.$f(P9):(f1):(f2)~", "Pxy.+y*x+91");
        // A promise that is written was kept before it is needed elsewhere.
        t.writes("[2,4]", 2, "A.$x(D1):x:+xx~", twice);
    }

    private static void keptForGood(Tester t) {
        t.writes("[1,1]", 1, "A.$x:1/x~yz:y~x");
        t.writes("[3,[3],3]", 2, "A.$x(D3):/x0yzy:x:/x0yzy~", "Da.:a~");
        t.run(50, LazyGraphs.LONG, "[1" + ",1".repeat(29), 1, "A.:1A");
    }

    private static void notNeeded(Tester t) {
        t.writes("1", 2, "A.(F1Z)", "Fxy.x");
        t.writes("1", 2, "A.(F1A)", "Fxy.x");
        t.writes("1", 1, "A./:1Z~xyx");
        t.writes("2", 1, "A./:Z2~xyy");
        t.writes("3", 1, "A.$xZ3");
        t.writes("4", 1, "A.?14Z");
        t.writes("5", 1, "A.?0Z5");
        t.writes("6", 1, "A./~6xyZ");
        t.writes("7", 1, "A./:11Zxy7");
        t.writes("\\", 1, "A.(FZ)", "Fxy.x");
    }

    private static void loops(Tester t) {
        t.loop("", 1, "A.A");
        t.loop("", 2, "A.B", "B.A");
        t.loop("", 1, "A.+1A");
        t.loop("", 1, "A.+A1");
        t.loop("", 1, "A.$xxx");
        t.loop("", 1, "A.$x+1xx");
        t.loop("", 1, "A.$x$yxyx");
        t.loop("", 1, "A.$x/x1yz2x");
        t.loop("", 1, "A.$x(x1)x");
        t.loop("", 1, "A.$x?x12x");
        t.loop("", 2, "A.(IA)", "Ix.x");
        t.loop("", 2, "A.$x(Ix)x", "Ix.x");
        t.loop("[", 1, "A.:$xxx~");
        t.loop("[1", 1, "A.:1$xxx");
        t.loop("[1,", 1, "A.:1:$xxx~");
        // What a pair begins with, and what it goes on with.
        t.loop("[", 1, "A.$x:/x1yzy~x");
        t.loop("[1", 1, "A.$x:1/x1yzzx");
    }

    private static void variables(Tester t) {
        t.writes("4", 2, "A.(F1234)", "Fabcd.d");
        t.writes("1", 2, "A.(F1234)", "Fabcd.a");
        t.writes("5", 1, "A.$x5x");
        t.writes("5", 1, "A.$x5$yx$zyz");
        t.bad("", 1, "A.$xZx");
    }

    private static void pairs(Tester t) {
        t.writes("1", 1, "A./:ZZ0xy1");
        t.writes("[[],[]]", 1, "A.:~:~~");
        t.writes("-1", 1, "A./:12~xy-xy");
    }

    private static void nothing(Tester t) {
        t.bad("", 1, "A.Z");
        t.bad("", 1, "A.(Z1)");
        t.bad("", 1, "A.+Z1");
        t.bad("", 1, "A.+1Z");
        t.bad("", 1, "A.?Z12");
        t.bad("", 1, "A./Z1xy2");
        t.bad("", 2, "A.(IZ)", "Ix.x");
        t.bad("[", 1, "A.:Z~");
        t.bad("[1", 1, "A.:1Z");
        LazyGraphs x = t.with("A.B", "B.1");
        x.forget('B');
        t.due("run with a forgotten letter", x.run('A', 9), LazyGraphs.BAD);
    }

    private static void withParameters(Tester t) {
        t.run(1, 1, "\\", 0, "Ax.x");
        t.run(1, 1, "\\", 0, "Aabcd.1");
        t.run(1, 1, "\\", 1, "A.F", "Fx.Z");
        t.writes("[\\,\\]", 1, "A.:F:F~", "Fx.x");
    }

    private static void withoutParameters(Tester t) {
        t.writes("1", 2, "A.B", "B.1");
        t.writes("10", 2, "A.+BB", "B.5");
        t.writes("[5,5,5]", 2, "A.:B:B:B~", "B.5");
        t.writes("15", 3, "A.+B+BC", "B.5", "C.B");
        t.writes("6", 3, "A.(B15)", "B.F", "Fxy.+xy");
        // The next run has a promise of its own.
        LazyGraphs x = t.with("A.+BB", "B.C", "C.5");
        for (int run = 0; run < 3; run++) {
            t.due("run", x.run('A', 9), 2);
            t.due("entries", x.entries(), 3);
        }
        t.define(x, 'C', ".6");
        t.due("run with another C", x.run('A', 9), 2);
        t.due("page", t.page(x), "12");
    }

    private static void firstExpression(Tester t) {
        t.writes("-1", 2, "A.(F12)", "Fxy.-xy");
        t.writes("2", 3, "A.((KI)12)", "Kxy.x", "Ix.x");
        t.writes("7", 2, "A.(?0ZI7)", "Ix.x");
        t.writes("7", 2, "A.$fI(f7)", "Ix.x");
        t.loop("", 1, "A.(AZ)");
        t.writes("1234", 3, "A.(F1234)", "Fabcd.+d*T+c*T+b*Ta", "T.+91");
        t.writes("1234", 3, "A.(((F1)23)4)", "Fabcd.+d*T+c*T+b*Ta", "T.+91");
    }

    private static void noFunction(Tester t) {
        for (String value : new String[] {"1", "0", "~", ":12"}) {
            t.bad("", 1, "A.(" + value + "2)");
            t.bad("", 1, "A.(" + value + "234Z)");
            // Not before it is to be applied to a second promise.
            t.bad("", 2, "A.(I" + value + "2)", "Ix.x");
            t.bad("", 2, "A.(F123" + value + ")", "Fabc." + value);
        }
    }

    private static void entered(Tester t) {
        t.writes("5", 2, "A.(F5)", "Fx.x");
        t.writes("[1,2]", 2, "A.(F12)", "Fxy.:x:y~");
        t.writes("[1,2,3]", 2, "A.(F123)", "Fxyz.:x:y:z~");
        t.writes("[1,2,3,4]", 2, "A.(F1234)", "Fwxyz.:w:x:y:z~");
        t.writes("[1,2,3,4]", 2, "A.((((F1)2)3)4)", "Fwxyz.:w:x:y:z~");
        t.writes("[1,2,3,4]", 2, "A.$g(F12)$h(g3)(h4)", "Fwxyz.:w:x:y:z~");
        // It is entered before the next promise is applied to.
        t.run(1, LazyGraphs.OUT, "", 1, "A.(I12)", "Ix.x");
        t.loop("", 2, "A.(F12)", "Fx.A");
    }

    private static void argumentsLeft(Tester t) {
        t.writes("7", 3, "A.(F17)", "Fx.I", "Ix.x");
        t.writes("3", 3, "A.(KI23)", "Kxy.x", "Ix.x");
        t.writes("4", 5, "A.(III(I4))", "Ix.x");
        t.writes("4", 5, "A.(IIII4)", "Ix.x");
        t.writes("\\", 4, "A.(IIIK)", "Ix.x", "Kxy.x");
        t.writes("\\", 3, "A.(IIK1)", "Ix.x", "Kxy.x");
        t.writes("[]", 2, "A.(I~)", "Ix.x");
    }

    private static void noNumbers(Tester t) {
        for (String sign : new String[] {"+", "-", "*", "<", "="}) {
            for (String value : new String[] {"~", ":12", "F"}) {
                t.bad("", 1, "A." + sign + value + "1", "Fx.x");
                t.bad("", 1, "A." + sign + "1" + value, "Fx.x");
                t.bad("", 1, "A." + sign + value + value, "Fx.x");
                // The first one is found to be no number before the second one is worked out.
                t.bad("", 1, "A." + sign + value + "A", "Fx.x");
                t.loop("", 1, "A." + sign + "A" + value, "Fx.x");
            }
            t.loop("", 1, "A." + sign + "1A");
        }
    }

    private static void arithmetic(Tester t) {
        t.writes("7", 1, "A.+34");
        t.writes("-1", 1, "A.-34");
        t.writes("1", 1, "A.-43");
        t.writes("12", 1, "A.*34");
        t.writes("0", 1, "A.*30");
        t.writes("-12", 1, "A.*-034");
        t.writes("12", 1, "A.*-03-04");
    }

    private static void wrapping(Tester t) {
        extreme(t, "-2147483648", "+N1");
        extreme(t, "2147483647", "+M-01");
        extreme(t, "0", "+MM");
        extreme(t, "-2", "+NN");
        extreme(t, "2147483647", "-M1");
        extreme(t, "-2147483648", "-N-01");
        extreme(t, "-2147483648", "-0M");
        extreme(t, "-1", "-NM");
        extreme(t, "0", "*M2");
        extreme(t, "-2", "*N2");
        extreme(t, "-2147483648", "*M-01");
        extreme(t, "1", "*NN");
        extreme(t, "0", "*MM");
        extreme(t, "-2147483648", "*MN");
    }

    private static void comparisons(Tester t) {
        t.writes("[1,0,0]", 1, "A.:<34:<43:<44~");
        t.writes("[0,0,1]", 1, "A.:=34:=43:=44~");
        t.writes("[1,0]", 1, "A.:<-010:<0-01~");
        // Their difference wraps round.
        extreme(t, "[1,0,0,0]", ":<MN:<NM:<MM:<NN~");
        extreme(t, "[0,0,1,1]", ":=MN:=NM:=MM:=NN~");
        extreme(t, "[1,0,1]", ":<M0:<N0:<0N~");
    }

    private static void noChoice(Tester t) {
        t.bad("", 1, "A.?~12");
        t.bad("", 1, "A.?:1212");
        t.bad("", 1, "A.?F12", "Fx.x");
        t.loop("", 1, "A.?A12");
    }

    private static void choices(Tester t) {
        t.writes("2", 1, "A.?123");
        t.writes("3", 1, "A.?023");
        t.writes("2", 1, "A.?-0123");
        t.writes("2", 1, "A.?923");
        extreme(t, "2", "?M23");
        extreme(t, "2", "?N23");
        extreme(t, "3", "?*M223");
        t.writes("[]", 1, "A.?0Z~");
        t.writes("\\", 1, "A.?9FZ", "Fx.x");
    }

    private static void emptyLists(Tester t) {
        t.writes("1", 1, "A./~1xy2");
        t.writes("1", 1, "A./~1xyZ");
        t.writes("1", 2, "A./B1xy2", "B.~");
        t.loop("", 1, "A./A1xy2");
    }

    private static void splitPairs(Tester t) {
        t.writes("2", 1, "A./:11~xy2");
        t.writes("3", 1, "A./:12~xy+xy");
        t.writes("-1", 1, "A./:12~xy-xy");
        t.writes("1", 1, "A./:1ZZxyx");
        t.writes("[2,3]", 1, "A./:1:2:3~Zxyy");
        t.writes("[]", 1, "A./:1~Zxyy");
    }

    private static void noList(Tester t) {
        t.bad("", 1, "A./02xy3");
        t.bad("", 1, "A./12xy3");
        t.bad("", 1, "A./F2xy3", "Fx.x");
        t.bad("", 1, "A./(F1)2xy3", "Fxy.x");
    }

    private static void bindings(Tester t) {
        t.writes("3", 1, "A.$x3x");
        t.writes("1", 1, "A.$xZ1");
        t.writes("5", 1, "A.$x:5x/x0yz/z0yzy");
        t.run(9, LazyGraphs.LONG, "[1" + ",1".repeat(29), 1, "A.$x:1xx");
        t.loop("", 1, "A.$xxx");
    }

    private static void entries(Tester t) {
        t.writes("1", 1, "A.1");
        t.writes("1", 2, "A.B", "B.1");
        t.writes("1", 2, "A.(I1)", "Ix.x");
        t.writes("10", 3, "A.+(I5)(I5)", "Ix.x");
        t.writes("10", 2, "A.+BB", "B.5");
        t.writes("\\", 0, "Ax.1");
        t.writes("\\", 1, "A.(F1)", "Fxy.x");
        t.bad("", 2, "A.B", "B.Z");
    }

    private static void entryBeyond(Tester t) {
        t.run(1, 1, "1", 1, "A.1");
        t.run(1, LazyGraphs.OUT, "", 1, "A.B", "B.1");
        t.run(2, 1, "1", 2, "A.B", "B.1");
        t.run(1, LazyGraphs.OUT, "", 1, "A.(I1)", "Ix.x");
        t.run(2, 1, "1", 2, "A.(I1)", "Ix.x");
        t.run(49, LazyGraphs.OUT, "", 49, "A.(F+1*68)", "Fn.?=n11+1(F-n1)");
        t.run(50, 2, "49", 50, "A.(F+1*68)", "Fn.?=n11+1(F-n1)");
        t.run(50, LazyGraphs.OUT, "", 50, "A.(F+2*68)", "Fn.?=n11+1(F-n1)");
        t.run(50, LazyGraphs.OUT, "", 50, "A.(F1)", "Fx.(Fx)");
        t.run(50, LazyGraphs.OUT, "", 50, "A.(F1)", "Fx.+1(F+x1)");
        t.run(50, LazyGraphs.OUT, "", 50, "A.(F1)", "Fx.?=x+1*68B(F+x1)", "B.1");
        // A letter that is kept needs no entry, and one that loops or stands for nothing needs none either.
        t.run(2, 1, "4", 2, "A.+BB", "B.2");
        t.run(1, LazyGraphs.LOOP, "", 1, "A.A");
        t.run(1, LazyGraphs.BAD, "", 1, "A.Z");
        t.run(1, 1, "\\", 1, "A.F", "Fx.x");
        t.run(1, 1, "\\", 1, "A.(F1)", "Fxy.x");
    }

    /** Chains of promises that are as long as 50 entries of 40 characters allow. */
    private static void depths(Tester t) {
        t.run(50, LazyGraphs.OUT, "", 50, "A.(F0)", "Fx." + "+1".repeat(12) + "(Fx)");
        t.run(50, 3, "529", 50, "A.(F*680)", "Fnx.?n" + "+1".repeat(11) + "(F-n1x)1");
        t.run(50, 3, "577", 50, "A.(F*680)", "Fnx.?n(F-n1" + "+1".repeat(12) + "x)+1x");
        t.run(50, LazyGraphs.LOOP, "", 50, "A.$x(F*68x)x", "Fnx.?n(F-n1" + "+1".repeat(12) + "x)x");
    }
}
