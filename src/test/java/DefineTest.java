/** Promise 4: define. */
final class DefineTest {
    public static void main(String[] args) {
        Tester t = new Tester();
        parameters(t);
        faults(t);
        applications(t);
        depth(t);
        strays(t);
        bindings(t);
        state(t);
        t.finish("DefineTest");
    }

    private static void define(Tester t, String text, int want) {
        t.due("define " + text, t.define(new LazyGraphs(), 'A', text), want);
    }

    private static void fault(Tester t, String text, int place) {
        define(t, text, -1 - place);
    }

    private static void stray(Tester t, String text, int place) {
        define(t, text, -100 - place);
    }

    private static void parameters(Tester t) {
        define(t, ".1", 0);
        define(t, "a.1", 1);
        define(t, "ab.b", 2);
        define(t, "zyx.z", 3);
        define(t, "abcd.d", 4);
        define(t, "aaaa.a", 4);
        fault(t, "abcde.1", 4);
        fault(t, "aA.1", 1);
        fault(t, "1", 0);
        fault(t, "..1", 1);
    }

    private static void faults(Tester t) {
        fault(t, "", 0);
        fault(t, "a", 1);
        fault(t, "abcd", 4);
        fault(t, ".", 1);
        fault(t, " .1", 0);
        fault(t, ". 1", 1);
        fault(t, ".1 ", 2);
        fault(t, ".12", 2);
        fault(t, ".)", 1);
        fault(t, ".\\", 1);
        fault(t, ".>12", 1);
        fault(t, ".[]", 1);
        for (char sign : ":+-*<=".toCharArray()) {
            fault(t, "." + sign, 2);
            fault(t, "." + sign + "1", 3);
            define(t, "." + sign + "12", 0);
            fault(t, "." + sign + "123", 4);
        }
        fault(t, ".?12", 4);
        define(t, ".?123", 0);
        fault(t, ".?1234", 5);
        fault(t, "./12", 4);
        fault(t, "./121", 4);
        fault(t, "./12a", 5);
        fault(t, "./12a1", 5);
        fault(t, "./12ab", 6);
        define(t, "./12ab3", 0);
        fault(t, "./12ab34", 7);
        fault(t, ".$", 2);
        fault(t, ".$1", 2);
        fault(t, ".$A", 2);
        fault(t, ".$x", 3);
        fault(t, ".$x1", 4);
        define(t, ".$x12", 0);
        fault(t, ".$x123", 5);
        define(t, ".~", 0);
        define(t, ".Z", 0);
        fault(t, "x.++x", 5);
        fault(t, ".:1:1:1:1:1:1:1:1:1:1:1:1:1:1", 29);
    }

    private static void applications(Tester t) {
        fault(t, ".(", 2);
        fault(t, ".()", 2);
        fault(t, ".(F", 3);
        fault(t, ".(F)", 3);
        fault(t, ".(F1", 4);
        define(t, ".(F1)", 0);
        define(t, ".(F1234)", 0);
        fault(t, ".(F1234", 7);
        fault(t, ".(F12345)", 7);
        fault(t, ".(F1)1", 5);
        define(t, ".((F1)(G2)3)", 0);
        fault(t, ".((F)1)", 4);
    }

    private static void depth(Tester t) {
        String[] openings = {":", "+", "-", "*", "<", "=", "?", "(", "/", "$x"};
        for (String opening : openings) {
            String fourteen = opening.repeat(14);
            if (fourteen.length() <= 28) {
                fault(t, "." + fourteen, 1 + fourteen.length());
                fault(t, "." + fourteen + "1", 2 + fourteen.length());
                fault(t, "." + fourteen + "x", 2 + fourteen.length());
                fault(t, "." + fourteen + opening, 1 + fourteen.length());
            }
        }
        define(t, "." + "+1".repeat(14) + "1", 0);
        fault(t, "." + "+1".repeat(15) + "1", 29);
        fault(t, "." + "+1".repeat(14) + "(F1)", 29);
        define(t, "." + "(F".repeat(12) + "1" + ")".repeat(12), 0);
        define(t, "." + "$x1".repeat(12) + "x", 0);
        // The depth counts where a part stands, not how many there were before it.
        define(t, ".+" + "+1".repeat(13) + "1+12", 0);
        // A fault ends the reading, even with something unbound before it.
        fault(t, ".+x", 3);
        fault(t, ".x1", 2);
    }

    private static void strays(Tester t) {
        stray(t, ".x", 1);
        stray(t, "a.b", 2);
        stray(t, "a.:ab", 4);
        stray(t, ".:yx", 2);
        stray(t, "ab.(cab)", 4);
        stray(t, ".+$xxxx", 6);
        stray(t, ".$xyx", 3);
        stray(t, ".$x1y", 4);
        stray(t, ".?1x2", 3);
        stray(t, "./xyxyx", 2);
        stray(t, "./1xxyx", 3);
        stray(t, "./1yxyx", 3);
        stray(t, ".+/12xy+xyx", 10);
        stray(t, ".+/12xy+xyy", 10);
        stray(t, ".+/12xx+xxx", 10);
        stray(t, ".+$x1$x2xx", 9);
        stray(t, ".$x1$y2z", 7);
        stray(t, "abcd." + "+1".repeat(14) + "e", 33);
    }

    private static void bindings(Tester t) {
        define(t, ".$xxx", 0);
        define(t, "x.$xxx", 1);
        define(t, "./12xyx", 0);
        define(t, "./12xyy", 0);
        define(t, "x./xxxyy", 1);
        define(t, ".$x1/xxxxx", 0);
        define(t, ".$x1+$x2xx", 0);
        t.writes("2", 2, "A.(F12)", "Faa.a");
        t.writes("4", 2, "A.(F1234)", "Faaaa.a");
        t.writes("3", 2, "A.(F1234)", "Fabac.a");
        t.writes("[2]", 1, "A./:1:2~~aaa");
        t.writes("2", 1, "A.$x1$x2x");
        t.writes("[2,1]", 1, "A.$x1:$x2x:x~");
        t.writes("[5,1]", 1, "A.$x1:/:5~~xyx:x~");
        t.writes("[[],1]", 1, "A.$x1:/:5~~xxx:x~");
        t.writes("7", 2, "A.(F3)", "Fx.$x7x");
        // Behind $x, the x in the promised expression is the new one.
        t.run(9, LazyGraphs.LOOP, "", 2, "A.(F3)", "Fx.$x+x1x");
        t.writes("4", 2, "A.(F3)", "Fx.$y+x1y");
        // In the first two expressions of / the outer variable counts.
        t.writes("[8,9]", 2, "A.(F:8:9~)", "Fx./x~xy:x:9~");
        t.writes("3", 2, "A.(F3)", "Fx./~xxyx");
    }

    private static void state(Tester t) {
        LazyGraphs x = t.with("Ax.x", "B.2");
        t.due("define of a fault", t.define(x, 'A', ".12"), -3);
        t.due("a fault leaves the letter", x.parameters('A'), 1);
        t.due("a fault empties the text", x.wipe(), 0);
        t.due("define of a stray", t.define(x, 'A', ".y"), -101);
        t.due("a stray leaves the letter", x.parameters('A'), 1);
        t.due("a stray empties the text", x.wipe(), 0);
        t.due("define of a stray for a new letter", t.define(x, 'C', ".y"), -101);
        t.due("a stray's new letter", x.parameters('C'), LazyGraphs.NONE);
        x.run('B', 1);
        t.due("define", t.define(x, 'A', "pqr.p"), 3);
        t.due("define empties the text", x.wipe(), 0);
        t.due("define takes the place", x.parameters('A'), 3);
        t.due("define leaves the page", t.page(x), "2");
        t.due("define leaves the entries", x.entries(), 1);
        t.due("define leaves the other letters", x.parameters('B'), 0);

        t.typeAll(x, "a.a");
        for (char wrong : "a@[z0 \u0000\uffff\u0141".toCharArray()) {
            t.throwing("define " + (int) wrong, IllegalArgumentException.class, () -> x.define(wrong));
        }
        t.due("a wrong letter leaves the text", x.define('Z'), 1);
        t.due("define of Z", x.parameters('Z'), 1);
    }
}
