import java.util.Random;

/**
 * Makes up definitions for A .. F. Most of their parts are of the kind that is wanted where they stand, as else nearly
 * all runs would end with BAD: a, b, c stand for numbers, d, e, f for lists and g, h for functions of a number.
 */
final class ProgramMaker {
    private static final String NUMBERS = "abc";
    private static final String LISTS = "def";
    private static final String FUNCTIONS = "gh";
    private static final int LETTERS = 6;

    private final Random random;
    private final String[] parameters = new String[LETTERS];
    private final String[] results = new String[LETTERS];
    private final int slips;

    ProgramMaker(Random random) {
        this.random = random;
        slips = random.nextInt(3) * 3;
        for (int l = 0; l < LETTERS; l++) {
            int count = l == 0 ? 0 : random.nextInt(5);
            StringBuilder s = new StringBuilder();
            for (int i = 0; i < count; i++) {
                s.append(anyOf("aaabbcdddefgh"));
            }
            parameters[l] = s.toString();
            results[l] = l > 0 && random.nextInt(2) == 0 ? NUMBERS : random.nextInt(8) == 0 ? FUNCTIONS : LISTS;
        }
    }

    String definition(char letter) {
        String text;
        do {
            StringBuilder s = new StringBuilder(parameters[letter - 'A']).append('.');
            expression(s, results[letter - 'A'], parameters[letter - 'A'], 2 + random.nextInt(6));
            text = s.toString();
        } while (text.length() > 40);
        return text;
    }

    private char anyOf(String signs) {
        return signs.charAt(random.nextInt(signs.length()));
    }

    private static String kindOf(char variable) {
        return NUMBERS.indexOf(variable) >= 0 ? NUMBERS : LISTS.indexOf(variable) >= 0 ? LISTS : FUNCTIONS;
    }

    private void expression(StringBuilder s, String wanted, String bound, int size) {
        String kind = random.nextInt(100) < slips ? kindOf(anyOf("adg")) : wanted;
        if (size <= 1) {
            leaf(s, kind, bound);
            return;
        }
        int choice = random.nextInt(10);
        if (choice < 3 && call(s, kind, bound, size)) {
            return;
        }
        if (choice < 5) {
            split(s, kind, bound, size);
        } else if (choice == 5) {
            binding(s, kind, bound, size);
        } else if (choice == 6) {
            s.append('?');
            expression(s, NUMBERS, bound, size - 2);
            expression(s, kind, bound, size - 1);
            expression(s, kind, bound, size - 2);
        } else if (kind.equals(LISTS)) {
            s.append(':');
            expression(s, random.nextInt(5) == 0 ? LISTS : NUMBERS, bound, size - 1 - random.nextInt(3));
            expression(s, LISTS, bound, size - 1);
        } else if (kind.equals(NUMBERS)) {
            s.append(anyOf("++--**<="));
            expression(s, NUMBERS, bound, size - 1 - random.nextInt(3));
            expression(s, NUMBERS, bound, size - 1 - random.nextInt(3));
        } else {
            leaf(s, kind, bound);
        }
    }

    private void split(StringBuilder s, String kind, String bound, int size) {
        char head = random.nextInt(10) == 0 ? anyOf(LISTS) : anyOf(NUMBERS);
        char tail = random.nextInt(20) == 0 ? head : anyOf(LISTS);
        s.append('/');
        expression(s, LISTS, bound, size - 1);
        expression(s, kind, bound, size - 3);
        s.append(head).append(tail);
        expression(s, kind, bound + head + tail, size - 1);
    }

    private void binding(StringBuilder s, String kind, String bound, int size) {
        char variable = anyOf("abdefg");
        s.append('$').append(variable);
        expression(s, kindOf(variable), random.nextInt(3) == 0 ? bound + variable : bound, size - 1);
        expression(s, kind, bound + variable, size - 1);
    }

    /** Applies a letter or a variable whose value is of the kind; answers whether there is one. */
    private boolean call(StringBuilder s, String kind, String bound, int size) {
        int letter = random.nextInt(LETTERS);
        for (int tries = 0; tries < LETTERS; tries++) {
            letter = (letter + 1) % LETTERS;
            if (results[letter].equals(kind) && !parameters[letter].isEmpty()) {
                s.append('(').append((char) ('A' + letter));
                for (char parameter : parameters[letter].toCharArray()) {
                    expression(s, kindOf(parameter), bound, size - 1 - random.nextInt(3));
                }
                s.append(')');
                return true;
            }
        }
        char function = boundOf(FUNCTIONS, bound);
        if (function == 0 || !kind.equals(NUMBERS)) {
            return false;
        }
        s.append('(').append(function);
        expression(s, NUMBERS, bound, size - 1);
        s.append(')');
        return true;
    }

    /** A bound variable of that kind, or 0. */
    private char boundOf(String kind, String bound) {
        for (int tries = 0; tries < 8 && !bound.isEmpty(); tries++) {
            char variable = anyOf(bound);
            if (kindOf(variable).equals(kind)) {
                return variable;
            }
        }
        return 0;
    }

    private void leaf(StringBuilder s, String kind, String bound) {
        char variable = random.nextInt(4) > 0 ? boundOf(kind, bound) : 0;
        if (variable != 0) {
            s.append(variable);
        } else if (kind.equals(NUMBERS)) {
            s.append(anyOf("0123456789"));
        } else if (kind.equals(LISTS)) {
            s.append(random.nextInt(4) > 0 ? '~' : constant());
        } else {
            partial(s, bound);
        }
    }

    /** A letter that stands for a list by itself, if one is found soon. */
    private char constant() {
        int letter = random.nextInt(LETTERS);
        return parameters[letter].isEmpty() && results[letter].equals(LISTS) ? (char) ('A' + letter) : '~';
    }

    /** A function of a number: a letter with arguments for all parameters but the last. */
    private void partial(StringBuilder s, String bound) {
        int letter = random.nextInt(LETTERS);
        for (int tries = 0; tries < LETTERS && parameters[letter].isEmpty(); tries++) {
            letter = (letter + 1) % LETTERS;
        }
        String taken = parameters[letter];
        if (taken.length() < 2) {
            s.append((char) ('A' + letter));
            return;
        }
        s.append('(').append((char) ('A' + letter));
        for (char parameter : taken.substring(0, taken.length() - 1).toCharArray()) {
            if (kindOf(parameter).equals(FUNCTIONS)) {
                s.append((char) ('A' + random.nextInt(LETTERS)));
            } else {
                leaf(s, kindOf(parameter), bound);
            }
        }
        s.append(')');
    }
}
