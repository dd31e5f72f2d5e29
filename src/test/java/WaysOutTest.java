import java.util.ArrayList;
import java.util.List;

/**
 * Programs from fixed seeds that have little else than BLOCKS which are kept and called, RETURNS out of them, and ENSURES
 * around them, with little room left; what they answer is compared with the model.
 */
public final class WaysOutTest {
    private static final int OBJECTS = 12000;
    private static final int METHODS = 4;
    private static final int RUNS = 20;
    /** The OBJECT that is sent to; the GLOBALS before it always are BLOCKS without a PARAM. */
    private static final int RECEIVER = 3;

    private long seed;
    private SendBench x;
    private Model m;
    private List<String> log;
    private boolean wrong;
    private int method;
    private final int[] outcomes = new int[7];

    public static void main(String[] args) {
        WaysOutTest test = new WaysOutTest();
        int objects = args.length > 0 ? Integer.parseInt(args[0]) : OBJECTS;
        long first = args.length > 1 ? Long.parseLong(args[1]) : 1;
        Checks t = new Checks("ways out");
        for (long n = first; n < first + objects && !test.wrong; n++) test.oneObject(n);
        t.is("differs", test.wrong, false);
        int[] due = {SendBench.OK, SendBench.DEAD, SendBench.DEEP, SendBench.FULL};
        for (int outcome : due) {
            System.out.println("ways out: outcome " + outcome + " came " + test.outcomes[outcome] + " times");
            t.is("outcome " + outcome + " came", test.outcomes[outcome] > 0, true);
        }
        System.out.println("ways out: " + Model.ensured + " ENSURES on the way out, " + Model.replaced + " RETURNS replaced");
        t.is("RETURNS replaced", Model.replaced > 0, true);
        t.end();
    }

    private int pick(int n) {
        seed = seed * 6364136223846793005L + 1442695040888963407L;
        return (int) ((seed >>> 33) % n);
    }

    private void due(String call, long got, long want) {
        log.add(call + " -> " + want);
        if (got == want || wrong) return;
        wrong = true;
        for (String line : log) System.out.println(line);
        System.out.println("answered " + got + ", due is " + want);
    }

    private void oneObject(long n) {
        seed = n * 104729;
        x = new SendBench();
        m = new Model();
        log = new ArrayList<>();
        due("cls(0, 2)", x.cls(0, 2), m.cls(0, 2));
        due("create(3, 4)", x.create(RECEIVER, 4), m.create(RECEIVER, 4));
        String early = pick(3) == 0 ? " BLOCK 0 RETURN SAY NUM 50" : " BLOCK 0 SAY NUM 51";
        addMethod(6, "THEN STORE 0" + early + " THEN STORE 1" + early + " STORE 2" + early);
        addMethod(7, "THEN SET 0 FIELD 0 PUT 0 BLOCK 0 TEMP 0");
        for (method = 0; method < METHODS; method++) addMethod(method, expression(8 + pick(25), 0));
        send(6);
        int kept = pick(3) == 0 ? 0 : 10 + pick(10);
        for (int i = 0; i < kept; i++) send(7);
        for (int i = 0; i < RUNS && !wrong; i++) run();
    }

    private void addMethod(int s, String program) {
        log.add("-- selector " + s + ": " + program);
        for (int[] token : Words.tokens(program)) {
            int count = m.token(token[0], token[1]);
            due("token(" + token[0] + ", " + token[1] + ")", x.token(token[0], token[1]), count);
        }
        int b = m.body();
        due("body()", x.body(), b);
        due("bind(4, " + s + ", " + b + ")", x.bind(4, s, b) ? 1 : 0, m.bind(4, s, b) ? 1 : 0);
    }

    private int send(int s) {
        int answer = m.send(s, RECEIVER, 0, 0);
        due("send(" + s + ", 3, 0, 0)", x.send(s, RECEIVER, 0, 0), answer);
        return answer;
    }

    private void run() {
        int answer = send(METHODS - 1 - pick(METHODS) * pick(2));
        if (answer >= 0) outcomes[answer]++;
        due("result()", x.result(), m.result());
        for (int what = 0; what < 3; what++) due("taken(" + what + ")", x.taken(what), m.taken(what));
        due("says()", x.says(), m.says());
        for (int k = 0; k < m.says() && k < 6; k++) due("said(" + k + ")", x.said(k), m.said(k));
        due("reachable()", x.reachable(), m.reachable());
        int k = pick(3);
        due("read(" + k + ")", x.read(k), m.read(k));
    }

    /** An expression of at most so many tokens, 1 or more, with so many BLOCKS around it. */
    private String expression(int size, int around) {
        if (size < 2) return pick(3) == 0 ? "NIL" : "NUM " + pick(40);
        if (size < 4 || pick(9) == 0) return small(size);
        int half = 1 + pick(size - 2);
        switch (pick(12)) {
            case 0: case 1: return "THEN " + expression(half, around) + " " + expression(size - 1 - half, around);
            case 2: case 3: case 4: return "ENSURE " + expression(half, around) + " " + expression(size - 1 - half, around);
            case 5: return "RETURN " + expression(size - 1, around);
            case 6: return "SAME " + expression(half, around) + " " + expression(size - 1 - half, around);
            case 7: return "STORE " + pick(3) + " " + block(size - 1, around);
            case 8: return "CALL SET " + pick(3) + " " + block(size - 2, around);
            case 9: return "PUT 1 " + expression(size - 1, around);
            default: return "CALL " + block(size - 1, around);
        }
    }

    private String small(int size) {
        switch (pick(8)) {
            case 0: return "SAY NUM " + pick(40);
            case 1: return size < 3 ? "RETURN NIL" : "RETURN SAY NUM " + pick(40);
            case 2: return "NEW 4";
            case 3: case 4: case 5: return method > 0 ? "SEND " + pick(method) + " SELF" : "SAY SELF";
            case 6: return "SAY FIELD 1";
            default: return "CALL GLOBAL " + pick(3);
        }
    }

    private String block(int size, int around) {
        if (around == 3 || size < 3) return "GLOBAL " + pick(3);
        String way = size > 3 && pick(3) > 0 ? "RETURN " : "";
        return "BLOCK 0 " + way + expression(size - (way.isEmpty() ? 1 : 2), around + 1);
    }
}
