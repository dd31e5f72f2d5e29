import java.util.ArrayList;
import java.util.List;

/**
 * Programs from fixed seeds whose BODIES are long chains of operators, each waiting for the next one, with a SUPER, SEND or
 * CALL at their end: many ACTIVATIONS come to be at work, with nearly all their tokens under way. What they answer is
 * compared with the model.
 */
public final class ChainsTest {
    private static final int OBJECTS = 8000;
    private static final int BODIES = 6;
    private static final int RUNS = 12;
    private static final int[] CLASSES = {0, 4, 5, 6, 7, 8, 9};

    private long seed;
    private SendBench x;
    private Model m;
    private List<String> log;
    private boolean wrong;
    private int straight;
    private final int[] outcomes = new int[7];

    public static void main(String[] args) {
        ChainsTest test = new ChainsTest();
        int objects = args.length > 0 ? Integer.parseInt(args[0]) : OBJECTS;
        long first = args.length > 1 ? Long.parseLong(args[1]) : 1;
        Checks t = new Checks("chains");
        for (long n = first; n < first + objects && !test.wrong; n++) test.oneObject(n);
        t.is("differs", test.wrong, false);
        for (int outcome = 0; outcome < test.outcomes.length; outcome++) {
            System.out.println("chains: outcome " + outcome + " came " + test.outcomes[outcome] + " times");
            t.is("outcome " + outcome + " came", test.outcomes[outcome] > 0, true);
        }
        System.out.println("chains: " + test.straight + " times DEEP with all tokens of all under way");
        t.is("all tokens of all under way", test.straight > 0, true);
        t.end();
    }

    private int pick(int n) {
        seed = seed * 6364136223846793005L + 1442695040888963407L;
        return (int) ((seed >>> 33) % n);
    }

    private void due(String call, long got, long want) {
        log.add(call + " -> " + want);
        if (got == want || wrong) return;
        wrong = true;
        for (String line : log) System.out.println(line);
        System.out.println("answered " + got + ", due is " + want);
    }

    private void oneObject(long n) {
        seed = n * 15485863;
        x = new SendBench();
        m = new Model();
        log = new ArrayList<>();
        for (int i = 1; i < CLASSES.length; i++) {
            int fields = i < 3 ? 1 : 0;
            due("cls(" + CLASSES[i - 1] + ", " + fields + ")", x.cls(CLASSES[i - 1], fields), m.cls(CLASSES[i - 1], fields));
        }
        due("create(0, 9)", x.create(0, 9), m.create(0, 9));
        due("create(1, 6)", x.create(1, 6), m.create(1, 6));
        // Without others, each BODY is a straight chain, so that nothing but DEEP can end the run.
        int others = pick(4) == 0 ? 0 : 1 + pick(5);
        for (int b = 0; b < BODIES; b++) addBody(others);
        for (int c : CLASSES) {
            for (int s = 0; s < 4; s++) {
                if (pick(3) > 0) bind(c, s);
            }
            if (pick(3) == 0) bind(c, 4 + pick(8));
        }
        if (pick(5) > 0) bind(CLASSES[pick(CLASSES.length)], 11);
        for (int i = 0; i < RUNS && !wrong; i++) run(others == 0);
    }

    private void addBody(int others) {
        String program = chain(others == 0 ? 32 : 20 + pick(13), others, 0);
        log.add("-- " + program);
        for (int[] token : Words.tokens(program)) {
            due("token(" + token[0] + ", " + token[1] + ")", x.token(token[0], token[1]), m.token(token[0], token[1]));
        }
        due("body()", x.body(), m.body());
    }

    private void bind(int c, int s) {
        int b = pick(BODIES);
        due("bind(" + c + ", " + s + ", " + b + ")", x.bind(c, s, b) ? 1 : 0, m.bind(c, s, b) ? 1 : 0);
    }

    private void run(boolean allStraight) {
        int s = pick(3) == 0 ? pick(12) : pick(4);
        int k = pick(2);
        int answer = m.send(s, k, 3, 4);
        if (answer >= 0) outcomes[answer]++;
        due("send(" + s + ", " + k + ", 3, 4)", x.send(s, k, 3, 4), answer);
        if (allStraight && answer == SendBench.DEEP) straight++;
        due("result()", x.result(), m.result());
        for (int what = 0; what < 3; what++) due("taken(" + what + ")", x.taken(what), m.taken(what));
        due("says()", x.says(), m.says());
        for (int n = 0; n < m.says() && n < 4; n++) due("said(" + n + ")", x.said(n), m.said(n));
        due("reachable()", x.reachable(), m.reachable());
        due("read(3)", x.read(3), m.read(3));
        if (pick(4) == 0) bind(CLASSES[pick(CLASSES.length)], pick(4));
    }

    /** Of at most so many tokens; so many tenths of its operators have operands beside the one that goes on. */
    private String chain(int size, int others, int around) {
        StringBuilder before = new StringBuilder();
        StringBuilder behind = new StringBuilder();
        int left = size;
        int blocks = around;
        while (left > 4 || left > 1 && others == 0) {
            if (pick(10) < others) {
                String[] parts = wide(pick(15), blocks);
                int tokens = Integer.parseInt(parts[0]);
                if (tokens >= left) continue;
                left -= tokens;
                before.append(parts[1]);
                behind.insert(0, parts[2]);
                if (parts[1].contains("BLOCK")) blocks++;
            } else {
                before.append(narrow(others == 0 ? pick(6) : pick(20) == 0 ? 6 + pick(2) : pick(6)));
                left--;
            }
        }
        return before + end(left) + behind;
    }

    private String narrow(int which) {
        switch (which) {
            case 0: return "SAY ";
            case 1: return "CLASS ";
            case 2: return "SET " + pick(3) + " ";
            case 3: return "STORE " + (2 + pick(2)) + " ";
            case 4: return "PUT " + pick(2) + " ";
            case 5: return "SAY ";
            case 6: return "RETURN ";
            default: return "CALL ";
        }
    }

    /** How many tokens, what stands before the operand that goes on, and what stands behind it. */
    private String[] wide(int which, int blocks) {
        switch (which) {
            case 0: return new String[] {"2", "ENSURE ", " NIL"};
            case 1: return new String[] {"3", "ENSURE ", " SAY NUM 1"};
            case 2: return new String[] {"2", "ENSURE SELF ", ""};
            case 3: return new String[] {"2", "THEN NIL ", ""};
            case 4: return new String[] {"2", "THEN ", " NEW 5"};
            case 5: return new String[] {"2", "SAME NEW 9 ", ""};
            case 6: return new String[] {"3", "IF SELF ", " NIL"};
            case 7: return new String[] {"3", "IF ", " NUM 1 NUM 2"};
            case 8: return new String[] {"2", "WHILE SELF ", ""};
            case 9: return new String[] {"2", "ADD NUM 2 ", ""};
            case 10: return new String[] {"2", "SEND 4 SELF ", ""};
            case 11: return new String[] {"3", "SEND 8 SELF NEW 4 ", ""};
            case 12: return new String[] {"1", "SUPER 5 ", ""};
            case 13: return blocks < 3 ? new String[] {"2", "CALL BLOCK 0 ", ""} : new String[] {"2", "SUPER 9 SELF ", ""};
            default: return blocks < 3 ? new String[] {"3", "GIVE BLOCK 1 ", " NUM 6"} : new String[] {"1", "CALL ", ""};
        }
    }

    private String end(int left) {
        if (left < 2) return pick(12) == 0 ? "NUM 1" : "SUPER " + pick(4);
        switch (pick(8)) {
            case 0: return "SEND " + pick(4) + " GLOBAL " + pick(4);
            case 1: return "CALL GLOBAL 3";
            case 2: return left < 3 ? "RETURN NUM 8" : "STORE 3 BLOCK 0 SELF";
            case 3: return left < 4 ? "RETURN NUM 8" : "STORE 3 BLOCK 0 RETURN SELF";
            default: return "SUPER " + pick(4);
        }
    }
}
