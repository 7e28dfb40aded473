import java.io.IOException;
import java.nio.file.Files;
import java.nio.file.Path;
import java.util.List;
import java.util.Map;

/** What README.md shows: its example and its programs answer as it tells. */
final class ReadmeTest {
    private static final String ARROW = "  =>  ";
    private static final Map<String, Integer> ENDS = Map.of("OUT", LazyGraphs.OUT, "BAD", LazyGraphs.BAD,
        "LOOP", LazyGraphs.LOOP, "LONG", LazyGraphs.LONG);

    public static void main(String[] args) throws IOException {
        Tester t = new Tester();
        List<String> lines = Files.readAllLines(Path.of("README.md"));
        t.sentence("README.md: the example", ReadmeTest::example);
        t.sentence("README.md: the programs", tester -> programs(tester, lines));
        t.finish("ReadmeTest");
    }

    private static void example(Tester t) {
        LazyGraphs x = new LazyGraphs();
        t.due("define N", t.define(x, 'N', "n.:n(N+n1)"), 1);
        t.due("define A", t.define(x, 'A', "./(N5)~ab:a/b~cd:c~"), 0);
        t.due("run A", x.run('A', 50), 5);
        t.due("page", t.page(x), "[5,6]");
    }

    private static void programs(Tester t, List<String> lines) {
        for (String line : lines) {
            int arrow = line.indexOf(ARROW);
            if (arrow >= 0) {
                program(t, line.substring(0, arrow).trim(), line.substring(arrow + ARROW.length()).trim());
            }
        }
    }

    private static void program(Tester t, String definitions, String told) {
        LazyGraphs x = t.with(definitions.split(" +"));
        Integer end = ENDS.get(told);
        t.due("run A of " + definitions, x.run('A', 50), end == null ? told.length() : end);
        if (end == null) {
            t.due("page of " + definitions, t.page(x), told);
        }
    }
}
