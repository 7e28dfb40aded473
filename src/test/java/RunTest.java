/** Promise 7: run. */
final class RunTest {
    public static void main(String[] args) {
        Tester t = new Tester();
        numbers(t);
        choices(t);
        lists(t);
        functions(t);
        letters(t);
        laziness(t);
        loops(t);
        bad(t);
        out(t);
        tooLong(t);
        wrongCalls(t);
        runsApart(t);
        depths(t);
        t.finish("RunTest");
    }

    private static void bad(Tester t, String page, int entered, String... definitions) {
        t.run(50, LazyGraphs.BAD, page, entered, definitions);
    }

    private static void loop(Tester t, String page, int entered, String... definitions) {
        t.run(50, LazyGraphs.LOOP, page, entered, definitions);
    }

    private static void numbers(Tester t) {
        for (int digit = 0; digit <= 9; digit++) {
            t.writes("" + digit, 1, "A." + digit);
        }
        t.writes("7", 1, "A.+34");
        t.writes("-1", 1, "A.-34");
        t.writes("12", 1, "A.*34");
        t.writes("[1,0,0]", 1, "A.:<34:<43:<44~");
        t.writes("[0,1]", 1, "A.:=34:=44~");
        t.writes("[1,0]", 1, "A.:<-010:<0-01~");
        t.writes("10", 1, "A.+91");
        t.writes("100", 1, "A.*+91+91");
        t.writes("-90", 1, "A.-0*9+91");
        // Two to the 31st wraps round to the least int, and one less is the greatest.
        t.writes("65536", 2, "A.*BB", "B.*4*88");
        t.writes("-2147483648", 3, "A.*C*8*8*8*88", "C.*BB", "B.*4*88");
        t.writes("2147483647", 3, "A.-*C*8*8*8*881", "C.*BB", "B.*4*88");
        t.writes("-2147483648", 3, "A.+1-*C*8*8*8*881", "C.*BB", "B.*4*88");
        t.writes("0", 3, "A.*2*C*8*8*8*88", "C.*BB", "B.*4*88");
    }

    private static void choices(Tester t) {
        t.writes("2", 1, "A.?123");
        t.writes("3", 1, "A.?023");
        t.writes("2", 1, "A.?-0123");
        t.writes("[]", 1, "A.?0Z~");
        t.writes("\\", 1, "A.?9FZ", "Fx.x");
    }

    private static void lists(Tester t) {
        t.writes("[]", 1, "A.~");
        t.writes("[1]", 1, "A.:1~");
        t.writes("[1,2,3]", 1, "A.:1:2:3~");
        t.writes("[[]]", 1, "A.:~~");
        t.writes("[[],[]]", 1, "A.:~:~~");
        t.writes("[[1,2],[[3]],\\,-4]", 1, "A.::1:2~:::3~~:F:-04~", "Fx.x");
        t.writes("1", 1, "A./~1xy2");
        t.writes("2", 1, "A./:11~xy2");
        t.writes("3", 1, "A./:12~xy+xy");
        t.writes("-1", 1, "A./:12~xy-xy");
        t.writes("[2,3]", 1, "A./:1:2:3~Zxyy");
        bad(t, "[1", 1, "A.:12");
        bad(t, "[1,2", 1, "A.:1:2F", "Fx.x");
        bad(t, "[[1", 1, "A.::12~");
    }

    private static void functions(Tester t) {
        t.writes("\\", 0, "Ax.x");
        t.writes("\\", 0, "Aabcd.1");
        t.writes("\\", 1, "A.F", "Fx.x");
        t.writes("\\", 1, "A.(F1)", "Fxy.x");
        t.writes("5", 2, "A.(F5)", "Fx.x");
        t.writes("1", 2, "A.(F12)", "Fxy.x");
        t.writes("1234", 3, "A.(F1234)", "Fabcd.+d*T+c*T+b*Ta", "T.+91");
        t.writes("1234", 3, "A.(((F1)23)4)", "Fabcd.+d*T+c*T+b*Ta", "T.+91");
        // What comes out of an entry is applied to the arguments that are left.
        t.writes("7", 3, "A.(F17)", "Fx.I", "Ix.x");
        t.writes("3", 3, "A.(KI23)", "Kxy.x", "Ix.x");
    }

    private static void letters(Tester t) {
        t.writes("1", 2, "A.B", "B.1");
        // A letter without parameters is one promise for the whole run.
        t.writes("10", 2, "A.+BB", "B.5");
        t.writes("[5,5,5]", 2, "A.:B:B:B~", "B.5");
        t.writes("15", 3, "A.+B+BC", "B.5", "C.B");
        // A letter with parameters is entered each time.
        t.writes("10", 3, "A.+(F5)(F5)", "Fx.x");
        t.writes("6", 3, "A.(B15)", "B.F", "Fxy.+xy");
        t.run(50, LazyGraphs.LONG, "[1" + ",1".repeat(29), 1, "A.:1A");
    }

    private static void laziness(Tester t) {
        t.writes("1", 2, "A.(F1Z)", "Fxy.x");
        t.writes("1", 2, "A.(F1A)", "Fxy.x");
        t.writes("1", 1, "A./:1Z~xyx");
        t.writes("2", 1, "A./:Z2~xyy");
        t.writes("3", 1, "A.$xZ3");
        t.writes("4", 1, "A.?14Z");
        t.writes("5", 1, "A.?0Z5");
        t.writes("6", 1, "A./~6xyZ");
        t.writes("7", 1, "A./:11Zxy7");
        // What is needed twice is worked out once.
        t.writes("4", 2, "A.$x(D1)+xx", "Da.+aa");
        t.writes("4", 3, "A.+(D1)(D1)", "Da.+aa");
        t.writes("8", 3, "A.(D(D2))", "Da.+aa");
        t.writes("[2,2]", 2, "A.$x(D1):x:x~", "Da.+aa");
        t.writes("4", 2, "A./:(D1)~~xy+xx", "Da.+aa");
        // The promises that a function has taken are shared by all that is made of it.
        t.writes("[4,5]", 4, "A.$f(P(D1)):(f2):(f3)~", "Pxy.+xy", "Da.+aa");
        t.writes("[1,2]", 3, "A.$f(P9):(f1):(f2)~", "Pxy.y");
        t.writes("[91,92]", 3, "A.$f(P9):(f1):(f2)~", "Pxy.+y*x+91");
    }

    private static void loops(Tester t) {
        loop(t, "", 1, "A.A");
        loop(t, "", 2, "A.B", "B.A");
        loop(t, "", 1, "A.+1A");
        loop(t, "", 1, "A.$xxx");
        loop(t, "", 1, "A.$x+1xx");
        loop(t, "", 1, "A.$x$yxyx");
        loop(t, "", 2, "A.(IA)", "Ix.x");
        loop(t, "", 2, "A.$x(Ix)x", "Ix.x");
        loop(t, "[", 1, "A.:$xxx~");
        loop(t, "[1", 1, "A.:1$xxx");
        loop(t, "[1,", 1, "A.:1:$xxx~");
        loop(t, "", 1, "A.$x/x1yz2x");
        loop(t, "", 1, "A.$x(x1)x");
        loop(t, "", 1, "A.$x?x12x");
        // To be needed inside of itself is no loop where it is kept by then.
        t.writes("[1,1]", 1, "A.$x:1/x~yz:y~x");
    }

    private static void bad(Tester t) {
        bad(t, "", 1, "A.Z");
        bad(t, "", 1, "A.(Z1)");
        bad(t, "", 1, "A.(12)");
        bad(t, "", 1, "A.(~2)");
        bad(t, "", 1, "A.(:122)");
        bad(t, "", 2, "A.(I12)", "Ix.x");
        bad(t, "", 2, "A.(I~2)", "Ix.x");
        for (String sign : new String[] {"+", "-", "*", "<", "="}) {
            bad(t, "", 1, "A." + sign + "~1");
            bad(t, "", 1, "A." + sign + "1~");
            bad(t, "", 1, "A." + sign + "~~");
            bad(t, "", 1, "A." + sign + ":121");
            bad(t, "", 1, "A." + sign + "F1", "Fx.x");
            bad(t, "", 1, "A." + sign + "1F", "Fx.x");
            // The first one is found to be no number before the second one is worked out.
            bad(t, "", 1, "A." + sign + "~A");
            loop(t, "", 1, "A." + sign + "A~");
            loop(t, "", 1, "A." + sign + "1A");
        }
        bad(t, "", 1, "A.?~12");
        bad(t, "", 1, "A.?:1212");
        bad(t, "", 1, "A.?F12", "Fx.x");
        bad(t, "", 1, "A./12xy3");
        bad(t, "", 1, "A./F2xy3", "Fx.x");
        bad(t, "[1,[]", 1, "A.:1:~3");
        bad(t, "[1", 1, "A.:1Z");
        bad(t, "[", 1, "A.:Z~");
    }

    private static void out(Tester t) {
        t.run(1, LazyGraphs.OUT, "", 1, "A.B", "B.1");
        t.run(2, 1, "1", 2, "A.B", "B.1");
        t.run(1, LazyGraphs.OUT, "", 1, "A.(I1)", "Ix.x");
        t.run(2, 1, "1", 2, "A.(I1)", "Ix.x");
        t.run(1, LazyGraphs.OUT, "[1,", 1, "A.:1:(I2)~", "Ix.x");
        t.run(50, LazyGraphs.OUT, "", 50, "A.(F1)", "Fx.(Fx)");
        t.run(50, LazyGraphs.OUT, "", 50, "A.(F1)", "Fx.+1(F+x1)");
        t.run(50, 2, "49", 50, "A.(F+1*68)", "Fn.?=n11+1(F-n1)");
        t.run(50, LazyGraphs.OUT, "", 50, "A.(F+2*68)", "Fn.?=n11+1(F-n1)");
        // The entry comes before the next argument is found to have no function.
        t.run(1, LazyGraphs.OUT, "", 1, "A.(I12)", "Ix.x");
        // A letter that is kept needs no entry, and one that loops needs none either.
        t.run(2, 1, "4", 2, "A.+BB", "B.2");
        t.run(1, LazyGraphs.LOOP, "", 1, "A.A");
        t.run(1, LazyGraphs.BAD, "", 1, "A.Z");
        t.run(1, 1, "\\", 1, "A.F", "Fx.x");
        t.run(1, 1, "\\", 1, "A.(F1)", "Fxy.x");
    }

    private static void tooLong(Tester t) {
        t.run(9, LazyGraphs.LONG, "[1" + ",1".repeat(29), 1, "A.$x:1xx");
        t.run(9, LazyGraphs.LONG, "[".repeat(60), 1, "A.$x:xxx");
        t.run(9, LazyGraphs.LONG, "[" + "[],".repeat(19) + "[]", 1, "A.$x:~xx");
        t.run(9, LazyGraphs.LONG, "[" + "\\,".repeat(29) + "\\", 1, "A.$x:Fxx", "Fx.x");
        t.run(9, LazyGraphs.LONG, "[" + "12,".repeat(19) + "12", 1, "A.$x:*34xx");
        t.run(9, LazyGraphs.LONG, "[7," + "12,".repeat(19), 1, "A.:7$x:*34xx");
        t.run(9, LazyGraphs.LONG, "[10," + "12,".repeat(18) + "12", 1, "A.:+91$x:*34xx");
        t.run(9, LazyGraphs.LONG, "[100," + "12,".repeat(18) + "1", 1, "A.:*+91+91$x:*34xx");
        t.run(9, LazyGraphs.LONG, "[100," + "-7,".repeat(18) + "-", 1, "A.:*+91+91$x:-07xx");
        t.run(9, LazyGraphs.LONG, "[100," + "[],".repeat(18) + "[", 1, "A.:*+91+91$x:~xx");
        t.run(9, LazyGraphs.LONG, "[[" + "1,".repeat(29), 1, "A.:$x:1xx~");
        exactlyFull(t);
    }

    /** Lists of n times 1 have 2n + 1 characters, so that one with a 10 in it can have 60. */
    private static void exactlyFull(Tester t) {
        String list = "Fn.?n:1(F-n1)~";
        t.run(50, 59, "[" + "1,".repeat(28) + "1]", 31, "A.(F+5*46)", list);
        t.run(50, 60, "[10," + "1,".repeat(27) + "1]", 30, "A.:+91(F*47)", list);
        t.run(50, LazyGraphs.LONG, "[100," + "1,".repeat(27) + "1", 30, "A.:*+91+91(F*47)", list);
        t.run(50, LazyGraphs.LONG, "[1" + ",1".repeat(29), 32, "A.(F*56)", list);
        // The page is full, but the list's end is needed before its sign is written.
        String broken = "Fn.?n:1(F-n1)Z";
        t.run(50, LazyGraphs.BAD, "[1" + ",1".repeat(29), 32, "A.(F*56)", broken);
    }

    private static void wrongCalls(Tester t) {
        LazyGraphs x = t.with("A.:1:2~", "B.A");
        x.run('B', 5);
        t.typeAll(x, ".4");
        for (char wrong : "b@[z0 \u0000\uffff\u0141".toCharArray()) {
            t.throwing("run " + (int) wrong, IllegalArgumentException.class, () -> x.run(wrong, 1));
            t.throwing("run " + (int) wrong + ", 0", IllegalArgumentException.class, () -> x.run(wrong, 0));
        }
        for (int wrong : new int[] {0, 51, -1, 52, 1000, Integer.MIN_VALUE, Integer.MAX_VALUE}) {
            t.throwing("run A, " + wrong, IllegalArgumentException.class, () -> x.run('A', wrong));
            t.throwing("run C, " + wrong, IllegalArgumentException.class, () -> x.run('C', wrong));
        }
        t.throwing("run C, 1", IllegalStateException.class, () -> x.run('C', 1));
        t.throwing("run C, 50", IllegalStateException.class, () -> x.run('C', 50));
        t.due("page behind throws", t.page(x), "[1,2]");
        t.due("entries behind throws", x.entries(), 2);
        t.due("parameters behind throws", x.parameters('C'), LazyGraphs.NONE);
        t.due("text behind throws", x.define('C'), 0);
        t.due("run A, 1", x.run('A', 1), 5);
        t.due("run A, 50", x.run('A', 50), 5);
        t.due("run C, 50", x.run('C', 50), 1);
    }

    /** A run starts anew, whatever the one before it left. */
    private static void runsApart(Tester t) {
        LazyGraphs x = t.with("A.:B:(D2)~", "B.3", "C.:1:C2", "Da.+aa", "E.E", "G.(DG)");
        char[] letters = "AECGBAGDAEBDCA".toCharArray();
        for (char letter : letters) {
            LazyGraphs fresh = t.with("A.:B:(D2)~", "B.3", "C.:1:C2", "Da.+aa", "E.E", "G.(DG)");
            for (int entries = 1; entries <= 4; entries++) {
                String call = "run " + letter + ", " + entries;
                t.due(call, x.run(letter, entries), fresh.run(letter, entries));
                t.due(call + ": page", t.page(x), t.page(fresh));
                t.due(call + ": entries", x.entries(), fresh.entries());
            }
        }
        t.due("run A", x.run('A', 9), 5);
        t.due("page", t.page(x), "[3,4]");
        t.define(x, 'B', ".(D3)");
        t.due("run A with another B", x.run('A', 9), 5);
        t.due("page", t.page(x), "[6,4]");
        t.due("entries", x.entries(), 4);
        x.forget('D');
        t.due("run A without D", x.run('A', 9), LazyGraphs.BAD);
        t.due("page", t.page(x), "[");
    }

    /** Chains of promises that are as long as 50 entries of 40 characters allow. */
    private static void depths(Tester t) {
        String nested = "+1".repeat(12);
        t.run(50, LazyGraphs.OUT, "", 50, "A.(F0)", "Fx." + nested + "(Fx)");
        t.run(50, 3, "529", 50, "A.(F*680)", "Fnx.?n" + "+1".repeat(11) + "(F-n1x)1");
        t.run(50, 3, "577", 50, "A.(F*680)", "Fnx.?n(F-n1" + "+1".repeat(12) + "x)+1x");
        t.run(50, LazyGraphs.LOOP, "", 50, "A.$x(F*68x)x", "Fnx.?n(F-n1" + "+1".repeat(12) + "x)x");
    }
}
