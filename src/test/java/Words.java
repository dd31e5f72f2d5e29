import java.util.ArrayList;
import java.util.List;

/** Programs as words, "ADD ARG 0 NUM 1", so that a test can be read; BIND has three numbers: class, selector, BODY. */
final class Words {
    static final String[] NAMES = {
        "NUM", "NIL", "SELF", "ARG", "TEMP", "SET", "FIELD", "PUT", "GLOBAL", "STORE", "SEND", "SUPER", "BLOCK", "PARAM",
        "CALL", "GIVE", "THEN", "RETURN", "ADD", "SUB", "MUL", "LESS", "SAME", "IF", "WHILE", "NEW", "SAY", "ENSURE",
        "BIND", "CLASS"};
    private static final String WITH_VALUE = " NUM ARG TEMP SET FIELD PUT GLOBAL STORE SEND SUPER BLOCK PARAM NEW ";

    private Words() {
    }

    static List<int[]> tokens(String program) {
        List<int[]> tokens = new ArrayList<>();
        String[] words = program.trim().split("\\s+");
        for (int i = 0; i < words.length && !words[i].isEmpty(); i++) {
            int kind = kindOf(words[i]);
            int value = 0;
            if (WITH_VALUE.contains(" " + words[i] + " ")) {
                value = Integer.parseInt(words[++i]);
            } else if (words[i].equals("BIND")) {
                value = 256 * Integer.parseInt(words[i + 1]) + 16 * Integer.parseInt(words[i + 2])
                    + Integer.parseInt(words[i + 3]);
                i += 3;
            }
            tokens.add(new int[] {kind, value});
        }
        return tokens;
    }

    static int kindOf(String word) {
        for (int kind = 0; kind < NAMES.length; kind++) {
            if (NAMES[kind].equals(word)) return kind;
        }
        throw new IllegalArgumentException(word);
    }

    static String show(List<int[]> tokens) {
        StringBuilder text = new StringBuilder();
        for (int[] token : tokens) {
            text.append(NAMES[token[0]]).append(' ');
            if (NAMES[token[0]].equals("BIND")) {
                text.append(token[1] / 256).append(' ').append(token[1] / 16 % 16).append(' ').append(token[1] % 16).append(' ');
            } else if (WITH_VALUE.contains(" " + NAMES[token[0]] + " ")) {
                text.append(token[1]).append(' ');
            }
        }
        return text.toString().trim();
    }

    static void draft(SendBench x, String program) {
        for (int[] token : tokens(program)) x.token(token[0], token[1]);
    }

    /** The BODY's number, or what body() answers else. */
    static int body(SendBench x, String program) {
        draft(x, program);
        return x.body();
    }

    /** Makes a BODY and gives it to a class; a test that can't do this is wrong itself. */
    static void method(SendBench x, int c, int s, String program) {
        int b = body(x, program);
        if (b < 0 || !x.bind(c, s, b)) throw new IllegalArgumentException(program + ": " + b + " at " + x.place());
    }
}
