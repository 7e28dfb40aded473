import java.lang.reflect.Constructor;
import java.lang.reflect.Field;
import java.lang.reflect.Method;
import java.lang.reflect.Modifier;
import java.util.Arrays;
import java.util.TreeSet;

/** The public face, and that nothing else can be seen of the class (rule 1 of LANGUAGE.md). */
final class FaceTest {
    private static final String[] FACE = {
        "public static final int LazyGraphs.NONE",
        "public static final int LazyGraphs.OUT",
        "public static final int LazyGraphs.BAD",
        "public static final int LazyGraphs.LOOP",
        "public static final int LazyGraphs.LONG",
        "public LazyGraphs()",
        "public boolean LazyGraphs.type(char)",
        "public int LazyGraphs.wipe()",
        "public int LazyGraphs.define(char) throws java.lang.IllegalArgumentException",
        "public void LazyGraphs.forget(char) throws java.lang.IllegalArgumentException,"
            + "java.lang.IllegalStateException",
        "public int LazyGraphs.parameters(char)",
        "public int LazyGraphs.run(char,int) throws java.lang.IllegalArgumentException,"
            + "java.lang.IllegalStateException",
        "public int LazyGraphs.entries()",
        "public int LazyGraphs.length()",
        "public char LazyGraphs.charAt(int)",
    };

    public static void main(String[] args) {
        Tester t = new Tester();
        TreeSet<String> seen = new TreeSet<>();
        for (Field f : LazyGraphs.class.getDeclaredFields()) {
            if (!Modifier.isPrivate(f.getModifiers())) {
                seen.add(f.toString());
            }
        }
        for (Constructor<?> c : LazyGraphs.class.getDeclaredConstructors()) {
            if (!Modifier.isPrivate(c.getModifiers())) {
                seen.add(c.toString());
            }
        }
        for (Method m : LazyGraphs.class.getDeclaredMethods()) {
            if (!Modifier.isPrivate(m.getModifiers())) {
                seen.add(m.toString());
            }
        }
        t.due("the face", String.join("\n", seen), String.join("\n", new TreeSet<>(Arrays.asList(FACE))));
        t.due("public and final", Modifier.toString(LazyGraphs.class.getModifiers()), "public final");
        t.due("NONE", LazyGraphs.NONE, -1);
        t.due("OUT", LazyGraphs.OUT, -2);
        t.due("BAD", LazyGraphs.BAD, -3);
        t.due("LOOP", LazyGraphs.LOOP, -4);
        t.due("LONG", LazyGraphs.LONG, -5);
        t.finish("FaceTest");
    }
}
