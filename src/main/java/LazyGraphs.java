/**
 * A small lazy language: definitions are typed as short texts, and a run writes a letter's value on a page.
 *
 * <p>No part of a body is worked out more than once in one entry of it: a body has no loop of its own, and a promise
 * is kept only once. So an entry and a place in the text name everything that a run can need to remember, and all
 * of it lies in rows that are made once.
 */
public final class LazyGraphs {
    public static final int NONE = -1;
    public static final int OUT = -2;
    public static final int BAD = -3;
    public static final int LOOP = -4;
    public static final int LONG = -5;

    private static final int TEXT_LIMIT = 40;
    private static final int PAGE_LIMIT = 60;
    private static final int ENTRY_LIMIT = 50;
    private static final int DEPTH_LIMIT = 15;
    private static final int PARAMETER_LIMIT = 4;
    private static final int ARGUMENT_LIMIT = 4;
    private static final int ALPHABET = 26;

    /** Far above the steps of any run: it has at most 2001 cells, and looks at each of them a few times. */
    private static final int STEP_LIMIT = 1000000;

    private final char[] text = new char[TEXT_LIMIT];
    private int typed = 0;
    private final Graph graph = new Graph();
    private final Writer writer = new Writer();

    public LazyGraphs() {
    }

    public boolean type(char c) {
        if (c < 32 || c > 126 || typed >= TEXT_LIMIT) {
            return false;
        }
        text[typed] = c;
        typed++;
        return true;
    }

    public int wipe() {
        int wiped = typed;
        typed = 0;
        return wiped;
    }

    public int define(char letter) throws IllegalArgumentException {
        int number = letterNumber(letter);
        Definition definition = new Definition(text, typed);
        typed = 0;
        int answer = new Reader(definition).read();
        if (answer >= 0) {
            graph.definitions[number] = definition;
        }
        return answer;
    }

    public void forget(char letter) throws IllegalArgumentException, IllegalStateException {
        int number = letterNumber(letter);
        checkDefined(number);
        graph.definitions[number] = null;
    }

    public int parameters(char letter) {
        return isLetter(letter) ? graph.parameterCount(letter - 'A') : NONE;
    }

    public int run(char letter, int entries) throws IllegalArgumentException, IllegalStateException {
        int number = letterNumber(letter);
        if (entries < 1 || entries > ENTRY_LIMIT) {
            throw new IllegalArgumentException("the entries are not 1 .. 50");
        }
        checkDefined(number);
        graph.begin(number, entries);
        writer.write(graph);
        return graph.end == Graph.GOING_ON ? writer.written : graph.end;
    }

    public int entries() {
        return graph.entered;
    }

    public int length() {
        return writer.written;
    }

    public char charAt(int p) {
        return p >= 0 && p < writer.written ? writer.page[p] : ' ';
    }

    private static int letterNumber(char letter) {
        if (!isLetter(letter)) {
            throw new IllegalArgumentException("the letter is not A .. Z");
        }
        return letter - 'A';
    }

    private void checkDefined(int number) {
        if (graph.definitions[number] == null) {
            throw new IllegalStateException("the letter stands for nothing");
        }
    }

    private static boolean isLetter(char c) {
        return c >= 'A' && c <= 'Z';
    }

    private static boolean isVariable(char c) {
        return c >= 'a' && c <= 'z';
    }

    private static boolean isDigit(char c) {
        return c >= '0' && c <= '9';
    }

    /** A text read as a definition. Its parts are known by the places where they begin. */
    private static final class Definition {
        private final char[] signs;
        /** For an expression: where the next one of the same whole begins; 0, where none can, if it is the last. */
        private final int[] nextPart;
        /** For a variable that is an expression: where it is bound. */
        private final int[] binder;
        private int parameterCount = 0;

        Definition(char[] text, int size) {
            signs = new char[size];
            nextPart = new int[size];
            binder = new int[size];
            System.arraycopy(text, 0, signs, 0, size);
        }
    }

    /** Reads a definition's text once, from the left; it stops at the first sign that can't stand where it stands. */
    private static final class Reader {
        private static final char BEYOND = 0;
        private static final int FIRST = 0;

        private final Definition definition;
        /** Where each variable is bound at the place that is read now. */
        private final int[] scope = new int[ALPHABET];
        private int at = 0;
        private boolean faulty = false;
        private int stray = NONE;

        Reader(Definition definition) {
            this.definition = definition;
            for (int v = 0; v < ALPHABET; v++) {
                scope[v] = NONE;
            }
        }

        /** Answers as define does. */
        int read() {
            readParameters();
            readPart(FIRST, 1);
            if (faulty || at < definition.signs.length) {
                return -1 - at;
            }
            return stray == NONE ? definition.parameterCount : -100 - stray;
        }

        private void readParameters() {
            while (definition.parameterCount < PARAMETER_LIMIT && isVariable(sign())) {
                bind(at);
                at++;
                definition.parameterCount++;
            }
            readSign('.');
        }

        /** Reads an expression that stands behind the previous one in the same whole; answers its place. */
        private int readPart(int previous, int depth) {
            if (faulty) {
                return previous;
            }
            int place = at;
            if (previous != FIRST) {
                definition.nextPart[previous] = place;
            }
            char sign = sign();
            if (isVariable(sign)) {
                useVariable(sign);
                at++;
            } else if (isDigit(sign) || isLetter(sign) || sign == '~') {
                at++;
            } else if (depth >= DEPTH_LIMIT) {
                faulty = true;
            } else {
                readWhole(sign, depth + 1);
            }
            return place;
        }

        private void useVariable(char sign) {
            int place = scope[sign - 'a'];
            definition.binder[at] = place;
            if (place == NONE && stray == NONE) {
                stray = at;
            }
        }

        private void readWhole(int sign, int partDepth) {
            switch (sign) {
                case ':':
                case '+':
                case '-':
                case '*':
                case '<':
                case '=':
                    at++;
                    readParts(2, partDepth);
                    break;
                case '?':
                    at++;
                    readParts(3, partDepth);
                    break;
                case '(':
                    at++;
                    readApplication(partDepth);
                    break;
                case '/':
                    at++;
                    readSplit(partDepth);
                    break;
                case '$':
                    at++;
                    readBinding(partDepth);
                    break;
                default:
                    faulty = true;
                    break;
            }
        }

        /** Reads the first so many expressions of a whole; answers the place of the last one. */
        private int readParts(int count, int depth) {
            int last = FIRST;
            for (int part = 0; part < count; part++) {
                last = readPart(last, depth);
            }
            return last;
        }

        private void readApplication(int depth) {
            int last = readParts(2, depth);
            for (int more = 1; more < ARGUMENT_LIMIT && !faulty && sign() != ')'; more++) {
                last = readPart(last, depth);
            }
            readSign(')');
        }

        private void readSplit(int depth) {
            int second = readParts(2, depth);
            int head = readVariable();
            int tail = readVariable();
            if (faulty) {
                return;
            }
            int outerHead = bind(head);
            int outerTail = bind(tail);
            readPart(second, depth);
            // In this order, as the two may be of one letter.
            unbind(tail, outerTail);
            unbind(head, outerHead);
        }

        private void readBinding(int depth) {
            int variable = readVariable();
            if (faulty) {
                return;
            }
            int outer = bind(variable);
            readParts(2, depth);
            unbind(variable, outer);
        }

        /** Reads a variable that is to be bound; answers its place. */
        private int readVariable() {
            int place = at;
            if (!faulty && isVariable(sign())) {
                at++;
            } else {
                faulty = true;
            }
            return place;
        }

        private void readSign(char due) {
            if (!faulty && sign() == due) {
                at++;
            } else {
                faulty = true;
            }
        }

        private char sign() {
            return at < definition.signs.length ? definition.signs[at] : BEYOND;
        }

        /** The variable at that place counts from now on; answers where its letter was bound before. */
        private int bind(int place) {
            int variable = definition.signs[place] - 'a';
            int outer = scope[variable];
            scope[variable] = place;
            return outer;
        }

        private void unbind(int place, int outer) {
            scope[definition.signs[place] - 'a'] = outer;
        }
    }

    /**
     * What a run knows. Each place of a body has a cell in each entry of it: where an expression begins, the cell
     * is the promise of this expression; where a variable is bound, the cell's value is the cell of the promise that
     * the variable stands for.
     *
     * <p>An expression that is worked out at once is treated as a promise that only its whole can need. A cell waits
     * on a stack, not in an open call, until the cells that it needs are kept: it is then looked at again.
     */
    private static final class Graph {
        static final int GOING_ON = 0;

        /** The cell of the letter that is run; it lies in no body. */
        static final int ROOT = ENTRY_LIMIT * TEXT_LIMIT;

        static final int UNTOUCHED = 0;
        static final int BEING_WORKED_OUT = 1;
        static final int NUMBER = 2;
        static final int EMPTY = 3;
        /** The value is the cell of the : that made the pair. */
        static final int PAIR = 4;
        /** The value is the cell of the promise that was taken last; -1 - letter when there is none. */
        static final int FUNCTION = 5;

        private final Definition[] definitions = new Definition[ALPHABET];
        /** The definition whose body was worked out, for each entry. */
        private final Definition[] bodies = new Definition[ENTRY_LIMIT];
        /** The cell of the body's promise, for each letter without parameters; NONE before it is needed. */
        private final int[] constants = new int[ALPHABET];

        private final int[] state = new int[ROOT + 1];
        private final int[] value = new int[ROOT + 1];
        /** The function that took this promise as its next one. */
        private final int[] taker = new int[ROOT + 1];
        /** For an application: the cell whose value is to be applied next. */
        private final int[] applied = new int[ROOT + 1];
        /** For an application: its last part that has been used up. */
        private final int[] used = new int[ROOT + 1];
        /** The cells that are being worked out; each one waits for the next. */
        private final int[] waiting = new int[ROOT + 1];
        private int waitingCount = 0;

        private int rootLetter = 0;
        private int allowed = 0;
        private int entered = 0;
        private int end = GOING_ON;

        int parameterCount(int letter) {
            Definition definition = definitions[letter];
            return definition == null ? NONE : definition.parameterCount;
        }

        void begin(int letter, int entryCount) {
            rootLetter = letter;
            allowed = entryCount;
            entered = 0;
            end = GOING_ON;
            waitingCount = 0;
            state[ROOT] = UNTOUCHED;
            for (int l = 0; l < ALPHABET; l++) {
                constants[l] = NONE;
            }
        }

        /** Needs a promise from outside of all expressions; answers whether the run goes on. */
        boolean need(int cell) {
            if (end == GOING_ON && !request(cell)) {
                for (int step = 0; step < STEP_LIMIT && waitingCount > 0 && end == GOING_ON; step++) {
                    lookAt(waiting[waitingCount - 1]);
                }
            }
            return end == GOING_ON;
        }

        /** The promise that a pair begins with. */
        int head(int pair) {
            return pair + 1;
        }

        /** The promise that a pair goes on with. */
        int tail(int pair) {
            return nextPart(pair + 1);
        }

        /** Answers whether the cell has its value; if not, it comes on the stack, or is there already: a loop. */
        private boolean request(int cell) {
            if (state[cell] == BEING_WORKED_OUT) {
                end = LOOP;
                return false;
            }
            if (state[cell] == UNTOUCHED) {
                state[cell] = BEING_WORKED_OUT;
                applied[cell] = cell + 1;
                used[cell] = cell + 1;
                waiting[waitingCount] = cell;
                waitingCount++;
                return false;
            }
            return true;
        }

        /** Gives the cell that is on top of the stack its value. */
        private void keep(int cell, int kind, int content) {
            state[cell] = kind;
            value[cell] = content;
            waitingCount--;
        }

        private void keepAs(int cell, int other) {
            if (request(other)) {
                keep(cell, state[other], value[other]);
            }
        }

        private void lookAt(int cell) {
            if (cell == ROOT) {
                lookAtLetter(cell, rootLetter);
                return;
            }
            Definition body = bodies[cell / TEXT_LIMIT];
            int place = cell % TEXT_LIMIT;
            char sign = body.signs[place];
            if (isDigit(sign)) {
                keep(cell, NUMBER, sign - '0');
            } else if (isVariable(sign)) {
                keepAs(cell, value[cell - place + body.binder[place]]);
            } else if (isLetter(sign)) {
                lookAtLetter(cell, sign - 'A');
            } else if (sign == '~') {
                keep(cell, EMPTY, 0);
            } else if (sign == ':') {
                keep(cell, PAIR, cell);
            } else if (sign == '(') {
                lookAtApplication(cell);
            } else if (sign == '?') {
                lookAtChoice(cell);
            } else if (sign == '/') {
                lookAtSplit(cell);
            } else if (sign == '$') {
                value[cell + 1] = cell + 2;
                keepAs(cell, nextPart(cell + 2));
            } else {
                lookAtArithmetic(cell, sign);
            }
        }

        private void lookAtLetter(int cell, int letter) {
            int count = parameterCount(letter);
            if (count == NONE) {
                end = BAD;
            } else if (count > 0) {
                keep(cell, FUNCTION, -1 - letter);
            } else {
                if (constants[letter] == NONE) {
                    constants[letter] = enter(letter, -1 - letter);
                }
                if (end == GOING_ON) {
                    keepAs(cell, constants[letter]);
                }
            }
        }

        private void lookAtApplication(int cell) {
            int function = applied[cell];
            if (!request(function)) {
                return;
            }
            if (nextPart(used[cell]) == NONE) {
                keep(cell, state[function], value[function]);
            } else if (state[function] == FUNCTION) {
                takeArguments(cell, value[function]);
            } else {
                end = BAD;
            }
        }

        /** The function takes arguments of the application until it has enough of them, or there are no more. */
        private void takeArguments(int cell, int function) {
            int letter = letterOf(function);
            int missing = parameterCount(letter) - promiseCount(function);
            int latest = function;
            int argument = nextPart(used[cell]);
            while (missing > 0 && argument != NONE) {
                taker[argument] = latest;
                latest = argument;
                used[cell] = argument;
                missing--;
                argument = nextPart(argument);
            }
            if (missing > 0) {
                keep(cell, FUNCTION, latest);
            } else {
                applied[cell] = enter(letter, latest);
            }
        }

        private int promiseCount(int function) {
            int count = 0;
            for (int f = function; f >= 0 && count < PARAMETER_LIMIT; f = taker[f]) {
                count++;
            }
            return count;
        }

        private int letterOf(int function) {
            int first = function;
            for (int count = 0; first >= 0 && count < PARAMETER_LIMIT; count++) {
                first = taker[first];
            }
            return -1 - first;
        }

        /**
         * Makes an entry of the letter, with the promises of a function that has enough of them; answers the cell of
         * the body, or NONE when there may be no more entries.
         */
        private int enter(int letter, int function) {
            if (entered >= allowed) {
                end = OUT;
                return NONE;
            }
            Definition body = definitions[letter];
            int base = entered * TEXT_LIMIT;
            for (int place = 0; place < body.signs.length; place++) {
                state[base + place] = UNTOUCHED;
            }
            int latest = function;
            for (int parameter = body.parameterCount - 1; parameter >= 0 && latest >= 0; parameter--) {
                value[base + parameter] = latest;
                latest = taker[latest];
            }
            bodies[entered] = body;
            entered++;
            // The body stands behind the parameters and the point.
            return base + body.parameterCount + 1;
        }

        private void lookAtChoice(int cell) {
            int condition = cell + 1;
            if (requestNumber(condition)) {
                int second = nextPart(condition);
                keepAs(cell, value[condition] != 0 ? second : nextPart(second));
            }
        }

        private void lookAtSplit(int cell) {
            int list = cell + 1;
            if (!request(list)) {
                return;
            }
            int second = nextPart(list);
            if (state[list] == EMPTY) {
                keepAs(cell, second);
            } else if (state[list] == PAIR) {
                int third = nextPart(second);
                // The two variables stand right before the expression in which they are bound.
                value[third - 2] = head(value[list]);
                value[third - 1] = tail(value[list]);
                keepAs(cell, third);
            } else {
                end = BAD;
            }
        }

        private void lookAtArithmetic(int cell, int sign) {
            int first = cell + 1;
            if (requestNumber(first)) {
                int second = nextPart(first);
                if (requestNumber(second)) {
                    keep(cell, NUMBER, calculate(sign, value[first], value[second]));
                }
            }
        }

        /** As request; what has a value that is no number ends the run. */
        private boolean requestNumber(int cell) {
            if (!request(cell)) {
                return false;
            }
            if (state[cell] != NUMBER) {
                end = BAD;
                return false;
            }
            return true;
        }

        private static int calculate(int sign, int first, int second) {
            switch (sign) {
                case '+':
                    return first + second;
                case '-':
                    return first - second;
                case '*':
                    return first * second;
                case '<':
                    return first < second ? 1 : 0;
                default:
                    return first == second ? 1 : 0;
            }
        }

        /** The cell of the expression behind this one in the same whole and entry; NONE when it is the last. */
        private int nextPart(int cell) {
            int place = cell % TEXT_LIMIT;
            int next = bodies[cell / TEXT_LIMIT].nextPart[place];
            return next == 0 ? NONE : cell - place + next;
        }
    }

    /** Writes a run's value on the page. */
    private static final class Writer {
        private final char[] page = new char[PAGE_LIMIT];
        private int written = 0;
        /** The pairs whose ] is not written yet, the innermost last; each one has its [ on the page. */
        private final int[] open = new int[PAGE_LIMIT];
        private int openCount = 0;
        /** The promise that is needed next; NONE when all is written. */
        private int due = NONE;
        /** Whether what is due is what the innermost open pair goes on with. */
        private boolean goesOn = false;

        void write(Graph graph) {
            written = 0;
            openCount = 0;
            due = Graph.ROOT;
            goesOn = false;
            for (int step = 0; step < STEP_LIMIT && due != NONE && graph.need(due); step++) {
                if (goesOn) {
                    writeRest(graph, graph.state[due], graph.value[due]);
                } else {
                    writeValue(graph, graph.state[due], graph.value[due]);
                }
            }
        }

        private void writeValue(Graph graph, int kind, int content) {
            switch (kind) {
                case Graph.PAIR:
                    if (put(graph, '[')) {
                        open[openCount] = content;
                        openCount++;
                        due = graph.head(content);
                    }
                    return;
                case Graph.NUMBER:
                    putNumber(graph, content);
                    break;
                case Graph.EMPTY:
                    put(graph, '[');
                    put(graph, ']');
                    break;
                default:
                    put(graph, '\\');
                    break;
            }
            goOn(graph);
        }

        private void writeRest(Graph graph, int kind, int content) {
            if (kind == Graph.PAIR) {
                put(graph, ',');
                open[openCount - 1] = content;
                due = graph.head(content);
                goesOn = false;
            } else if (kind == Graph.EMPTY) {
                put(graph, ']');
                openCount--;
                goOn(graph);
            } else {
                graph.end = BAD;
            }
        }

        /** Behind a value that is written: what the pair that it stands in goes on with is due, if it stands in one. */
        private void goOn(Graph graph) {
            goesOn = openCount > 0;
            due = goesOn ? graph.tail(open[openCount - 1]) : NONE;
        }

        private void putNumber(Graph graph, int number) {
            // As a long, as the least int has no positive counterpart.
            long rest = number;
            if (rest < 0) {
                put(graph, '-');
                rest = -rest;
            }
            long unit = 1;
            while (unit * 10 <= rest) {
                unit *= 10;
            }
            for (; unit > 0; unit /= 10) {
                put(graph, (char) ('0' + rest / unit % 10));
            }
        }

        /** Answers whether there was room for the sign; the run ends if not. */
        private boolean put(Graph graph, char sign) {
            if (written >= PAGE_LIMIT) {
                graph.end = LONG;
                return false;
            }
            page[written] = sign;
            written++;
            return true;
        }
    }
}
