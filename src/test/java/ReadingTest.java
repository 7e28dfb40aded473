/** How a text is read, under "Terms": a test for each sentence that names a boundary. */
final class ReadingTest {
    private static final String[] WHOLES = {
        ":12", "+12", "-12", "*12", "<12", "=12", "?123", "(F1)", "(F12)", "(F1234)", "/12xy3", "$x12",
    };

    public static void main(String[] args) {
        Tester t = new Tester();
        t.sentence("LETTERS A .. Z stand for DEFINITIONS or for nothing.", ReadingTest::letters);
        t.sentence("The TEXT has at most 40 characters with codes 32 .. 126; places count from 0.", ReadingTest::text);
        t.sentence("There are no spaces in what follows.", ReadingTest::spaces);
        t.sentence("An EXPRESSION is ..", ReadingTest::signs);
        t.sentence("a variable a .. z", ReadingTest::variables);
        t.sentence("a digit, a NUMBER", ReadingTest::digits);
        t.sentence("a letter A .. Z", ReadingTest::letterExpressions);
        t.sentence("~ , the EMPTY list;   : e f , a list that begins with e and goes on with f", ReadingTest::lists);
        t.sentence("(, an expression, one to four expressions, its ARGUMENTS, ): an application",
            ReadingTest::applications);
        t.sentence("+, -, *, < or = and two expressions", ReadingTest::arithmetic);
        t.sentence("? and three expressions", ReadingTest::choices);
        t.sentence("/ and two expressions, two variables, an expression", ReadingTest::splits);
        t.sentence("$, a variable, two expressions", ReadingTest::bindings);
        t.sentence("Expressions lie in one another at most 15 deep (the whole is 1 deep).", ReadingTest::depth);
        t.sentence("A DEFINITION is zero to four variables, its PARAMETERS, then . , then an expression, its BODY.",
            ReadingTest::definitions);
        t.sentence("The FAULT of a text that is to be read as a definition is the place of the first character with"
            + " which the text up to and with it is not the beginning of any definition",
            ReadingTest::faults);
        t.sentence("its length when there is none, but the text is none", ReadingTest::faultsAtTheEnd);
        t.sentence("not the beginning of any definition: a definition may have more than 40 characters",
            ReadingTest::faultsOfLongDefinitions);
        t.sentence("A variable is BOUND where it is a parameter, in both expressions behind $ and it, and in the last"
            + " expression of / as one of its two variables",
            ReadingTest::boundVariables);
        t.sentence("where several of one letter are, the innermost one counts", ReadingTest::innermost);
        t.sentence("of parameters and of the two of / the later one", ReadingTest::laterOnes);
        t.sentence("A definition is SOUND when every variable that is an expression in it is bound",
            ReadingTest::sound);
        t.sentence("the first one that is not is its STRAY", ReadingTest::strays);
        t.finish("ReadingTest");
    }

    private static void letters(Tester t) {
        LazyGraphs x = new LazyGraphs();
        for (int n = 0; n < 26; n++) {
            char letter = (char) ('A' + n);
            t.due("parameters before " + letter, x.parameters(letter), LazyGraphs.NONE);
            t.due("define " + letter, t.define(x, letter, ".+*5" + n / 5 + n % 5), 0);
            t.due("parameters " + letter, x.parameters(letter), 0);
        }
        for (int n = 0; n < 26; n++) {
            char letter = (char) ('A' + n);
            x.run(letter, 1);
            t.due("page of " + letter, t.page(x), "" + n);
        }
    }

    private static void text(Tester t) {
        LazyGraphs x = new LazyGraphs();
        for (int n = 0; n < 40; n++) {
            t.due("type with " + n, x.type(n % 2 == 0 ? (char) 32 : (char) 126), true);
        }
        t.due("type with 40", x.type('1'), false);
        t.due("wipe with 40", x.wipe(), 40);
        t.due("type 31", x.type((char) 31), false);
        t.due("type 127", x.type((char) 127), false);
        t.due("wipe", x.wipe(), 0);
        t.fault(" ", 0);
        t.fault("." + Tester.sum(19) + " ", 38);
        t.fault("a." + Tester.sum(19) + " ", 39);
    }

    private static void spaces(Tester t) {
        String sound = "ab./(Fa)~xy:$za?b1+x2y";
        t.reads(sound, 2);
        for (int p = 0; p <= sound.length(); p++) {
            t.fault(sound.substring(0, p) + " " + sound.substring(p), p);
        }
    }

    /** Each of the characters that a text can have, where an expression begins. */
    private static void signs(Tester t) {
        for (char sign = 32; sign <= 126; sign++) {
            String text = "." + sign;
            if (sign >= 'a' && sign <= 'z') {
                t.stray(text, 1);
            } else if (sign >= '0' && sign <= '9' || sign >= 'A' && sign <= 'Z' || sign == '~') {
                t.reads(text, 0);
            } else {
                t.fault(text, ":(+-*<=?/$".indexOf(sign) >= 0 ? 2 : 1);
            }
        }
    }

    private static void variables(Tester t) {
        for (char v = 'a'; v <= 'z'; v++) {
            t.reads(v + "." + v, 1);
            t.reads(".$" + v + "1" + v, 0);
            t.reads("./1" + "2" + v + v + v, 0);
        }
        for (char wrong : "`{AZ0 ".toCharArray()) {
            t.fault(wrong + ".1", 0);
            t.fault(".$" + wrong + "12", 2);
            t.fault("./12" + wrong + "x3", 4);
            t.fault("./12x" + wrong + "3", 5);
        }
        t.fault(".`", 1);
        t.fault(".{", 1);
    }

    private static void digits(Tester t) {
        t.writes("0", 1, "A.0");
        t.writes("9", 1, "A.9");
        t.fault(".10", 2);
        t.fault(".00", 2);
        t.fault(".-1", 3);
    }

    private static void letterExpressions(Tester t) {
        for (char letter = 'A'; letter <= 'Z'; letter++) {
            t.reads("." + letter, 0);
            t.reads(".(" + letter + "1)", 0);
        }
        t.fault(".@", 1);
        t.fault(".[", 1);
        t.fault(".AB", 2);
    }

    private static void lists(Tester t) {
        t.reads(".~", 0);
        t.fault(".~~", 2);
        wantsParts(t, ':', 2);
    }

    /** Behind the sign so many expressions stand, neither less nor more. */
    private static void wantsParts(Tester t, char sign, int count) {
        String[] parts = {"1", "x", "A", "~", "+12"};
        for (String part : parts) {
            String start = "x." + sign;
            for (int n = 0; n < count; n++) {
                t.fault(start, start.length());
                t.fault(start + ")", start.length());
                start += part;
            }
            t.reads(start, 1);
            t.fault(start + part, start.length());
        }
    }

    private static void applications(Tester t) {
        t.fault(".(", 2);
        t.fault(".()", 2);
        t.fault(".(F", 3);
        t.fault(".(F)", 3);
        for (int arguments = 1; arguments <= 4; arguments++) {
            String open = ".(F" + "1".repeat(arguments);
            t.fault(open, open.length());
            t.reads(open + ")", 0);
            t.fault(open + "))", open.length() + 1);
            t.fault(open + ")1", open.length() + 1);
        }
        t.fault(".(F12345)", 7);
        t.fault(".(F1234+", 7);
        t.reads(".((F1)(G2)3)", 0);
        t.fault(".((F)1)", 4);
        t.fault(".F)", 2);
    }

    private static void arithmetic(Tester t) {
        for (char sign : "+-*<=".toCharArray()) {
            wantsParts(t, sign, 2);
        }
        t.fault(".>12", 1);
    }

    private static void choices(Tester t) {
        wantsParts(t, '?', 3);
    }

    private static void splits(Tester t) {
        t.fault("./", 2);
        t.fault("./1", 3);
        t.fault("./12", 4);
        t.fault("./123", 4);
        t.fault("./12a", 5);
        t.fault("./12a3", 5);
        t.fault("./12ab", 6);
        t.fault("./12ab)", 6);
        t.reads("./12ab3", 0);
        t.reads("./12abb", 0);
        t.fault("./12ab34", 7);
        t.fault("./12abba", 7);
    }

    private static void bindings(Tester t) {
        t.fault(".$", 2);
        t.fault(".$1", 2);
        t.fault(".$x", 3);
        t.fault(".$x1", 4);
        t.fault(".$x1)", 4);
        t.reads(".$x12", 0);
        t.reads(".$xxx", 0);
        t.fault(".$x123", 5);
    }

    private static void depth(Tester t) {
        for (String whole : WHOLES) {
            // Inside so many sums, in the second and in the first part of each.
            t.reads("." + "+1".repeat(13) + whole, 0);
            t.fault("." + "+1".repeat(14) + whole, 29);
            t.reads("." + "+".repeat(13) + whole + "1".repeat(13), 0);
            t.fault("." + "+".repeat(14) + whole + "1".repeat(14), 15);
            eachPart(t, whole);
        }
        t.reads("." + "+1".repeat(14) + "1", 0);
        t.reads("." + "+1".repeat(14) + "~", 0);
        t.reads("." + "+1".repeat(14) + "Z", 0);
        t.reads("z." + "+1".repeat(14) + "z", 1);
        t.fault("." + "?".repeat(15), 15);
        // The depth is where a part stands, not how many stand before it.
        t.reads(".+" + "+1".repeat(13) + "1+12", 0);
    }

    /** A sum in the place of each part of the whole may be 14 deep, as its own parts are 15 deep then. */
    private static void eachPart(Tester t, String whole) {
        for (int p = 0; p < whole.length(); p++) {
            char part = whole.charAt(p);
            if (part >= '1' && part <= '4' || part == 'F') {
                String deeper = whole.substring(0, p) + "+12" + whole.substring(p + 1);
                t.reads("." + "+1".repeat(12) + deeper, 0);
                t.fault("." + "+1".repeat(13) + deeper, 27 + p);
            }
        }
    }

    private static void definitions(Tester t) {
        for (int count = 0; count <= 4; count++) {
            String parameters = "wxyz".substring(4 - count);
            t.reads(parameters + ".1", count);
            t.fault(parameters, count);
            t.fault(parameters + ".", count + 1);
            t.fault(parameters + "..1", count + 1);
            t.fault(parameters + ".11", count + 2);
            t.fault(parameters + "1", count);
            t.fault(parameters + "A.1", count);
        }
        t.reads("aaaa.a", 4);
        t.fault("abcde.1", 4);
        t.fault("aaaaa.a", 4);
    }

    private static void faults(Tester t) {
        t.fault(")", 0);
        t.fault(")))", 0);
        t.fault("1.1", 0);
        t.fault("x(.)", 1);
        t.fault(".1))", 2);
        // What is wrong is told of the text up to that place, whatever comes behind it, or is not bound before it.
        t.fault(".(F)1)", 3);
        t.fault(".x1", 2);
        t.fault(".+xy)z", 4);
        t.fault("./xyx1z", 5);
        String longest = "a." + Tester.sum(19);
        t.fault(longest + "1", 39);
        t.fault(longest + ")", 39);
    }

    private static void faultsAtTheEnd(Tester t) {
        t.fault("", 0);
        t.fault("a", 1);
        t.fault("abcd", 4);
        t.fault(".", 1);
        t.fault("abcd.", 5);
        t.fault(".+x", 3);
        t.fault(".(F1", 4);
        t.fault("." + Tester.sum(20).substring(0, 38), 39);
        t.fault("." + Tester.sum(20).substring(0, 38) + "+", 40);
        t.fault("abcd." + "+1".repeat(14), 33);
    }

    /** The document sets a length for the text, and none for the definitions that it may be the beginning of. */
    private static void faultsOfLongDefinitions(Tester t) {
        t.fault("." + "?".repeat(14), 15);
        t.fault("." + "?".repeat(14) + "1".repeat(25), 40);
        t.fault("abcd." + "?".repeat(13) + "1".repeat(22), 40);
        t.fault("." + "/".repeat(14), 15);
        t.fault("." + "(".repeat(14), 15);
        t.fault("." + "$x".repeat(14), 29);
    }

    private static void boundVariables(Tester t) {
        t.reads("a.a", 1);
        t.reads("abcd.:a:b:cd", 4);
        t.reads(".$x:x1:x2", 0);
        t.stray(".+$xxxx", 6);
        t.stray(".:x$x12", 2);
        t.reads("./12xy:xy", 0);
        t.stray("./x2xy3", 2);
        t.stray("./y2xy3", 2);
        t.stray("./1xxy3", 3);
        t.stray("./1yxy3", 3);
        t.stray(".+/12xy3x", 8);
        t.stray(".+/12xy3y", 8);
        t.stray(".+/12xx3x", 8);
        // Behind the end of an inner binding the outer one is there again.
        t.reads(".$x1+$x2xx", 0);
        t.reads("x.+/12xxxx", 1);
    }

    private static void innermost(Tester t) {
        t.writes("2", 1, "A.$x1$x2x");
        t.writes("[2,1]", 1, "A.$x1:$x2x:x~");
        t.writes("7", 2, "A.(F3)", "Fx.$x7x");
        t.writes("[5,1]", 1, "A.$x1:/:5~~xyx:x~");
        t.writes("[5,3]", 2, "A.(F3)", "Fx.:/:5~~xyx:x~");
        t.writes("6", 1, "A./:5~~xy$x6x");
        t.writes("4", 1, "A./:5~~xy/:4~~xyx");
        // Behind $x, the x in the promised expression is the new one.
        t.loop("", 2, "A.(F3)", "Fx.$x+x1x");
        t.writes("4", 2, "A.(F3)", "Fx.$y+x1y");
        // In the first two expressions of / the outer one counts.
        t.writes("[8,9]", 2, "A.(F:8:9~)", "Fx./x~xy:x:9~");
        t.writes("3", 2, "A.(F3)", "Fx./~xxyx");
    }

    private static void laterOnes(Tester t) {
        t.writes("2", 2, "A.(F12)", "Faa.a");
        t.writes("4", 2, "A.(F1234)", "Faaaa.a");
        t.writes("3", 2, "A.(F1234)", "Fabac.a");
        t.writes("[2]", 1, "A./:1:2~~aaa");
        t.writes("[[],1]", 1, "A.$x1:/:5~~xxx:x~");
    }

    private static void sound(Tester t) {
        t.reads("abcd.1", 4);
        t.reads(".$x12", 0);
        t.reads("./12xy3", 0);
        t.reads("x./xxxyy", 1);
        t.reads(".$x1/xxxxx", 0);
        t.stray(".x", 1);
        t.stray("a.:ab", 4);
        t.stray(".(F123x)", 6);
        t.stray(".(xF)", 2);
        t.stray(".?1x3", 3);
    }

    private static void strays(Tester t) {
        t.stray(".:xy", 2);
        t.stray(".:yx", 2);
        t.stray(".:xx", 2);
        t.stray("y.:y:xz", 5);
        t.stray(".$xy/x1zzw", 3);
        t.stray("./xyzzw", 2);
        t.stray("./1yzzw", 3);
        t.stray("./12zzw", 6);
        String longest = "." + Tester.sum(20);
        t.stray(longest.substring(0, 39) + "x", 39);
        t.stray("abcd." + "+1".repeat(14) + "e", 33);
    }
}
