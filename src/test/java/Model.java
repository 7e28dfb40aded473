import java.util.ArrayDeque;
import java.util.ArrayList;
import java.util.Deque;
import java.util.HashMap;
import java.util.List;
import java.util.Map;

/** The document's words followed one by one, with objects and recursion and no thought of room or depth. */
final class Model {
    /** Ends a run. */
    static final class End extends RuntimeException {
        private static final long serialVersionUID = 1;
        final transient int why;

        End(int why) {
            super(null, null, false, false);
            this.why = why;
        }
    }

    static final class Expression {
        final char sign;
        final int place;
        final List<Expression> parts = new ArrayList<>();
        String variables = "";

        Expression(char sign, int place) {
            this.sign = sign;
            this.place = place;
        }
    }

    static final class Definition {
        String parameters;
        Expression body;
    }

    /** What variables stand for, the innermost first. */
    static final class Scope {
        final char variable;
        final Promise promise;
        final Scope outer;

        Scope(char variable, Promise promise, Scope outer) {
            this.variable = variable;
            this.promise = promise;
            this.outer = outer;
        }
    }

    static final class Promise {
        Expression expression;
        Scope scope;
        boolean entry;
        boolean busy;
        Object kept;
    }

    enum Empty { LIST }

    static final class Pair {
        Promise head;
        Promise tail;
    }

    static final class Function {
        char letter;
        List<Promise> promises = new ArrayList<>();
    }

    final Map<Character, Definition> definitions = new HashMap<>();
    final StringBuilder page = new StringBuilder();
    int entered;
    private int allowed;
    private Map<Character, Promise> constants;

    // ---- reading

    /** The place of the first character that can't stand where it stands, found by what is still due behind it. */
    static int fault(String text) {
        // P parameters and the point, V a variable, E an expression so deep, M up to so many more arguments and the ).
        Deque<String> due = new ArrayDeque<>();
        due.push("E1");
        due.push("P4");
        int p = 0;
        while (p < text.length()) {
            if (due.isEmpty() || !takes(due, text.charAt(p))) {
                return p;
            }
            p++;
        }
        return due.isEmpty() ? -1 : p;
    }

    private static boolean takes(Deque<String> due, char c) {
        String top = due.pop();
        int n = top.length() > 1 ? Integer.parseInt(top.substring(1).split("d")[0]) : 0;
        switch (top.charAt(0)) {
            case 'P':
                if (c == '.') {
                    return true;
                }
                due.push("P" + (n - 1));
                return n > 0 && Character.isLowerCase(c);
            case 'V':
                return Character.isLowerCase(c);
            case 'M':
                if (c == ')') {
                    return true;
                }
                if (n == 0) {
                    return false;
                }
                String depth = top.substring(top.indexOf('d') + 1);
                due.push("M" + (n - 1) + "d" + depth);
                due.push("E" + depth);
                return takes(due, c);
            default:
                return takesExpression(due, c, n);
        }
    }

    private static boolean takesExpression(Deque<String> due, char c, int depth) {
        if ("abcdefghijklmnopqrstuvwxyzABCDEFGHIJKLMNOPQRSTUVWXYZ0123456789~".indexOf(c) >= 0) {
            return true;
        }
        if (depth == 15) {
            return false;
        }
        String e = "E" + (depth + 1);
        String[] parts;
        switch (c) {
            case ':': case '+': case '-': case '*': case '<': case '=':
                parts = new String[] {e, e};
                break;
            case '?':
                parts = new String[] {e, e, e};
                break;
            case '/':
                parts = new String[] {e, e, "V", "V", e};
                break;
            case '$':
                parts = new String[] {"V", e, e};
                break;
            case '(':
                parts = new String[] {e, e, "M3d" + (depth + 1)};
                break;
            default:
                return false;
        }
        for (int i = parts.length - 1; i >= 0; i--) {
            due.push(parts[i]);
        }
        return true;
    }

    int define(char letter, String text) {
        int fault = fault(text);
        if (fault >= 0) {
            return -1 - fault;
        }
        int point = text.indexOf('.');
        Definition d = new Definition();
        d.parameters = text.substring(0, point);
        int[] at = {point + 1};
        d.body = parse(text, at);
        int stray = stray(d.body, d.parameters);
        if (stray >= 0) {
            return -100 - stray;
        }
        definitions.put(letter, d);
        return point;
    }

    private static Expression parse(String text, int[] at) {
        Expression e = new Expression(text.charAt(at[0]), at[0]);
        at[0]++;
        switch (e.sign) {
            case ':': case '+': case '-': case '*': case '<': case '=':
                e.parts.add(parse(text, at));
                e.parts.add(parse(text, at));
                break;
            case '?':
                e.parts.add(parse(text, at));
                e.parts.add(parse(text, at));
                e.parts.add(parse(text, at));
                break;
            case '/':
                e.parts.add(parse(text, at));
                e.parts.add(parse(text, at));
                e.variables = text.substring(at[0], at[0] + 2);
                at[0] += 2;
                e.parts.add(parse(text, at));
                break;
            case '$':
                e.variables = text.substring(at[0], at[0] + 1);
                at[0]++;
                e.parts.add(parse(text, at));
                e.parts.add(parse(text, at));
                break;
            case '(':
                while (text.charAt(at[0]) != ')') {
                    e.parts.add(parse(text, at));
                }
                at[0]++;
                break;
            default:
                break;
        }
        return e;
    }

    private static int stray(Expression e, String bound) {
        if (Character.isLowerCase(e.sign)) {
            return bound.indexOf(e.sign) >= 0 ? -1 : e.place;
        }
        for (int i = 0; i < e.parts.size(); i++) {
            boolean inside = e.sign == '$' || e.sign == '/' && i == 2;
            int stray = stray(e.parts.get(i), inside ? bound + e.variables : bound);
            if (stray >= 0) {
                return stray;
            }
        }
        return -1;
    }

    // ---- running

    int run(char letter, int entries) {
        page.setLength(0);
        entered = 0;
        allowed = entries;
        constants = new HashMap<>();
        try {
            write(workOut(new Expression(letter, 0), null));
            return page.length();
        } catch (End end) {
            return end.why;
        }
    }

    private void put(String s) {
        for (char c : s.toCharArray()) {
            if (page.length() == 60) {
                throw new End(LazyGraphs.LONG);
            }
            page.append(c);
        }
    }

    private void write(Object value) {
        if (value instanceof Integer) {
            put(value.toString());
        } else if (value instanceof Function) {
            put("\\");
        } else if (value instanceof Empty) {
            put("[]");
        } else {
            put("[");
            Pair pair = (Pair) value;
            while (true) {
                write(need(pair.head));
                Object rest = need(pair.tail);
                if (rest instanceof Pair) {
                    put(",");
                    pair = (Pair) rest;
                } else if (rest instanceof Empty) {
                    put("]");
                    return;
                } else {
                    throw new End(LazyGraphs.BAD);
                }
            }
        }
    }

    private Promise promise(Expression e, Scope scope) {
        Promise p = new Promise();
        p.expression = e;
        p.scope = scope;
        return p;
    }

    private Object need(Promise p) {
        if (p.kept != null) {
            return p.kept;
        }
        if (p.busy) {
            throw new End(LazyGraphs.LOOP);
        }
        p.busy = true;
        if (p.entry) {
            countEntry();
        }
        p.kept = workOut(p.expression, p.scope);
        return p.kept;
    }

    private void countEntry() {
        if (entered == allowed) {
            throw new End(LazyGraphs.OUT);
        }
        entered++;
    }

    private int number(Expression e, Scope scope) {
        Object value = workOut(e, scope);
        if (!(value instanceof Integer)) {
            throw new End(LazyGraphs.BAD);
        }
        return (Integer) value;
    }

    private Object workOut(Expression e, Scope scope) {
        char c = e.sign;
        if (Character.isDigit(c)) {
            return c - '0';
        }
        if (Character.isLowerCase(c)) {
            Scope s = scope;
            while (s.variable != c) {
                s = s.outer;
            }
            return need(s.promise);
        }
        if (Character.isUpperCase(c)) {
            return letter(c);
        }
        List<Expression> parts = e.parts;
        switch (c) {
            case '~':
                return Empty.LIST;
            case ':':
                Pair pair = new Pair();
                pair.head = promise(parts.get(0), scope);
                pair.tail = promise(parts.get(1), scope);
                return pair;
            case '?':
                return workOut(parts.get(number(parts.get(0), scope) != 0 ? 1 : 2), scope);
            case '$':
                Promise own = promise(parts.get(0), null);
                own.scope = new Scope(e.variables.charAt(0), own, scope);
                return workOut(parts.get(1), own.scope);
            case '/':
                return split(e, scope);
            case '(':
                return apply(e, scope);
            default:
                int a = number(parts.get(0), scope);
                int b = number(parts.get(1), scope);
                return c == '+' ? a + b : c == '-' ? a - b : c == '*' ? a * b : (c == '<' ? a < b : a == b) ? 1 : 0;
        }
    }

    private Object letter(char c) {
        Definition d = definitions.get(c);
        if (d == null) {
            throw new End(LazyGraphs.BAD);
        }
        if (d.parameters.isEmpty()) {
            Promise p = constants.get(c);
            if (p == null) {
                p = promise(d.body, null);
                p.entry = true;
                constants.put(c, p);
            }
            return need(p);
        }
        Function f = new Function();
        f.letter = c;
        return f;
    }

    private Object split(Expression e, Scope scope) {
        Object list = workOut(e.parts.get(0), scope);
        if (list instanceof Empty) {
            return workOut(e.parts.get(1), scope);
        }
        if (!(list instanceof Pair)) {
            throw new End(LazyGraphs.BAD);
        }
        Scope first = new Scope(e.variables.charAt(0), ((Pair) list).head, scope);
        return workOut(e.parts.get(2), new Scope(e.variables.charAt(1), ((Pair) list).tail, first));
    }

    private Object apply(Expression e, Scope scope) {
        Object value = workOut(e.parts.get(0), scope);
        for (Expression argument : e.parts.subList(1, e.parts.size())) {
            if (!(value instanceof Function)) {
                throw new End(LazyGraphs.BAD);
            }
            Function f = new Function();
            f.letter = ((Function) value).letter;
            f.promises.addAll(((Function) value).promises);
            f.promises.add(promise(argument, scope));
            Definition d = definitions.get(f.letter);
            value = f;
            if (f.promises.size() == d.parameters.length()) {
                countEntry();
                Scope inside = null;
                for (int i = 0; i < f.promises.size(); i++) {
                    inside = new Scope(d.parameters.charAt(i), f.promises.get(i), inside);
                }
                value = workOut(d.body, inside);
            }
        }
        return value;
    }
}
