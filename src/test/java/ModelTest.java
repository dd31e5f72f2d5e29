import java.util.ArrayList;
import java.util.List;

/** Many runs of calls, made from a fixed seed, each call answered by the class and by the model. */
public final class ModelTest {
    private static final int OBJECTS = 12000;
    private static final int CALLS = 512;

    private long seed;
    private SendBench x;
    private Model m;
    private int calls;
    private int classes;
    private int bodies;
    private List<String> log;
    private boolean wrong;
    private final int[] outcomes = new int[7];

    public static void main(String[] args) {
        ModelTest test = new ModelTest();
        int objects = args.length > 0 ? Integer.parseInt(args[0]) : OBJECTS;
        long first = args.length > 1 ? Long.parseLong(args[1]) : 1;
        Checks t = new Checks("model");
        for (long n = first; n < first + objects && !test.wrong; n++) test.oneObject(n);
        t.is("differs", test.wrong, false);
        for (int outcome = 0; outcome < test.outcomes.length; outcome++) {
            System.out.println("model: outcome " + outcome + " came " + test.outcomes[outcome] + " times");
            t.is("outcome " + outcome + " came", test.outcomes[outcome] > 0, true);
        }
        System.out.println("model: " + Model.ensured + " ENSURES on the way out, " + Model.replaced + " RETURNS replaced");
        t.is("RETURNS replaced", Model.replaced > 0, true);
        t.end();
    }

    private int pick(int n) {
        seed = seed * 6364136223846793005L + 1442695040888963407L;
        return (int) ((seed >>> 33) % n);
    }

    private boolean chance(int percent) {
        return pick(100) < percent;
    }

    private void due(String call, long got, long want) {
        calls++;
        log.add(call + " -> " + want);
        if (got == want || wrong) return;
        wrong = true;
        for (String line : log) System.out.println(line);
        System.out.println("answered " + got + ", due is " + want);
    }

    private void oneObject(long n) {
        seed = n * 7919;
        x = new SendBench();
        m = new Model();
        calls = 0;
        classes = 4;
        bodies = 0;
        log = new ArrayList<>();
        int made = pick(5);
        for (int i = 0; i < made; i++) addClass();
        int first = 2 + pick(6);
        for (int i = 0; i < first; i++) addBody(4 + pick(29));
        for (int s = 0; s < 12; s++) addUsefulBinding(s);
        for (int i = 0; i < 8; i++) addBinding();
        for (int k = 0; k < 4; k++) addObject(k);
        if (chance(50)) fill();
        while (calls < CALLS - 60 && !wrong) somethingElse();
    }

    private void somethingElse() {
        int what = pick(20);
        if (what < 11) run();
        else if (what == 11) addClass();
        else if (what == 12) addBody(1 + pick(32));
        else if (what < 16) addBinding();
        else if (what < 18) addObject(pick(4));
        else if (what == 18) setGlobal();
        else wrongDraft();
    }

    private void addClass() {
        int parent = chance(85) ? pick(2) == 0 ? 0 : 4 + pick(classes - 3) : pick(14) - 2;
        int fields = chance(90) ? pick(3) : pick(9) - 3;
        int answer = m.cls(parent, fields);
        if (answer >= 0) classes++;
        due("cls(" + parent + ", " + fields + ")", x.cls(parent, fields), answer);
    }

    private void addToken(int kind, int value) {
        int answer = m.token(kind, value);
        due("token(" + kind + ", " + value + ")", x.token(kind, value), answer);
    }

    private void endBody(List<int[]> tokens) {
        for (int[] token : tokens) addToken(token[0], token[1]);
        log.add("-- " + Words.show(tokens));
        int answer = m.body();
        if (answer >= 0) bodies++;
        due("body()", x.body(), answer);
        due("place()", x.place(), m.place());
        if (answer == -3) due("wipe()", x.wipe(), m.wipe());
    }

    private void addBody(int size) {
        List<int[]> tokens = new ArrayList<>();
        expression(tokens, size, new ArrayList<>());
        endBody(tokens);
    }

    private void wrongDraft() {
        List<int[]> tokens = new ArrayList<>();
        expression(tokens, 1 + pick(12), new ArrayList<>());
        int at = pick(tokens.size());
        int how = pick(4);
        if (how == 0) tokens.remove(at);
        else if (how == 1) tokens.add(at, randomToken());
        else if (how == 2) tokens.set(at, randomToken());
        else tokens.add(randomToken());
        endBody(tokens);
        if (chance(20)) addToken(pick(34) - 2, pick(3000) - 20);
        if (chance(50)) due("wipe()", x.wipe(), m.wipe());
    }

    private int[] randomToken() {
        int kind = pick(30);
        int[] limit = {9, 1, 1, 2, 3, 3, 4, 4, 4, 4, 12, 12, 2, 3, 1, 1, 1, 1, 1, 1, 1, 1, 1, 1, 1, 10, 1, 1, 0, 1};
        int value = kind == 28 ? 256 * pick(10) + 16 * pick(12) + pick(12) : pick(limit[kind]);
        return new int[] {kind, value};
    }

    private void addBinding() {
        int c = chance(95) ? chance(40) ? 0 : pick(classes) : pick(14) - 2;
        int s = chance(97) ? pick(12) : pick(16) - 2;
        int b = chance(92) ? pick(bodies + 1) : pick(15) - 3;
        boolean answer = m.bind(c, s, b);
        due("bind(" + c + ", " + s + ", " + b + ")", x.bind(c, s, b) ? 1 : 0, answer ? 1 : 0);
        if (chance(20)) due("finds(" + c + ", " + s + ")", x.finds(c, s), m.finds(c, s));
    }

    private void addUsefulBinding(int s) {
        if (bodies == 0 || chance(15)) return;
        int b = pick(bodies);
        due("bind(0, " + s + ", " + b + ")", x.bind(0, s, b) ? 1 : 0, m.bind(0, s, b) ? 1 : 0);
    }

    private void addObject(int global) {
        int k = chance(97) ? global : pick(8) - 2;
        int c = chance(90) ? classes > 4 && chance(80) ? 4 + pick(classes - 4) : 0 : pick(14) - 2;
        int answer = m.create(k, c);
        due("create(" + k + ", " + c + ")", x.create(k, c), answer);
    }

    private void setGlobal() {
        int k = chance(90) ? pick(4) : pick(8) - 2;
        int v = chance(80) ? pick(9) - 3 : Integer.MIN_VALUE;
        boolean answer = m.global(k, v);
        due("global(" + k + ", " + v + ")", x.global(k, v) ? 1 : 0, answer ? 1 : 0);
        if (chance(50)) due("reachable()", x.reachable(), m.reachable());
    }

    /** A list of BLOCKS, each kept by a variable of the next one's HOME, so that later runs find little room. */
    private void fill() {
        String list = chance(50) ? "THEN SET 0 GLOBAL 3 STORE 3 BLOCK 0 TEMP 0"
            : "THEN SET 0 GLOBAL 3 STORE 3 CALL CALL BLOCK 0 BLOCK 0 BLOCK 0 TEMP 0";
        endBody(Words.tokens(list));
        int b = bodies - 1;
        if (bodies == 0) return;
        due("bind(0, 3, " + b + ")", x.bind(0, 3, b) ? 1 : 0, m.bind(0, 3, b) ? 1 : 0);
        int times = 10 + pick(16);
        for (int i = 0; i < times; i++) due("send(3, 0, 0, 0)", x.send(3, 0, 0, 0), m.send(3, 0, 0, 0));
        due("reachable()", x.reachable(), m.reachable());
    }

    private void run() {
        int s = chance(98) ? pick(12) : pick(20) - 4;
        int k = chance(98) ? pick(4) : pick(8) - 2;
        int a = chance(80) ? pick(7) - 2 : Integer.MAX_VALUE;
        int b = pick(5) - 2;
        int answer = m.send(s, k, a, b);
        if (answer >= 0) outcomes[answer]++;
        due("send(" + s + ", " + k + ", " + a + ", " + b + ")", x.send(s, k, a, b), answer);
        due("result()", x.result(), m.result());
        for (int what = 0; what < 3; what++) due("taken(" + what + ")", x.taken(what), m.taken(what));
        due("says()", x.says(), m.says());
        int k0 = m.says() == 0 ? 0 : pick(Math.min(m.says(), 22));
        due("said(" + k0 + ")", x.said(k0), m.said(k0));
        due("said(0)", x.said(0), m.said(0));
        due("reachable()", x.reachable(), m.reachable());
        int g = pick(6) - 1;
        int j = pick(6) - 1;
        due("read(" + g + ")", x.read(g), m.read(g));
        due("field(" + g + ", " + j + ")", x.field(g, j), m.field(g, j));
        int c = pick(12) - 1;
        int f = pick(14) - 1;
        due("finds(" + c + ", " + f + ")", x.finds(c, f), m.finds(c, f));
        if (chance(10)) {
            int what = pick(9) - 2;
            due("taken(" + what + ")", x.taken(what), m.taken(what));
        }
    }

    /** Of at most so many tokens; the BLOCKS around it say which PARAMS it may have. */
    private void expression(List<int[]> tokens, int size, List<Integer> around) {
        if (size <= 1 || chance(6)) {
            simple(tokens, around);
            return;
        }
        int[] one = {5, 5, 7, 9, 9, 10, 10, 10, 11, 12, 12, 12, 14, 14, 14, 17, 17, 17, 26, 26, 29};
        int[] two = {10, 11, 15, 15, 15, 16, 16, 16, 16, 16, 18, 19, 20, 21, 22, 24, 27, 27, 27, 27, 27};
        int kind = size == 2 || chance(35) ? one[pick(one.length)] : two[pick(two.length)];
        if (size > 3 && chance(8)) kind = 23;
        int value = 0;
        int operands = size == 2 ? 1 : 2;
        boolean few = kind != 10 && kind != 11;
        if (kind == 10) {
            operands = Math.min(size - 1, 1 + pick(3));
            value = 4 * (operands - 1) + pick(4);
        } else if (kind == 11) {
            operands = Math.min(size - 1, pick(3));
            value = 4 * operands + pick(4);
        } else if (kind == 5) {
            value = pick(3);
        } else if (kind == 7) {
            value = pick(3);
        } else if (kind == 9) {
            value = pick(4);
        } else if (kind == 12) {
            value = pick(2);
        }
        if (kind == 12 && around.size() == 3) kind = 26;
        if (few) operands = kind == 23 ? 3 : kind == 15 || kind == 16 || kind >= 18 && kind <= 24 || kind == 27 ? 2 : 1;
        tokens.add(new int[] {kind, value});
        List<Integer> inner = around;
        if (kind == 12) {
            inner = new ArrayList<>(around);
            inner.add(value);
        }
        int left = size - 1;
        for (int i = operands; i > 0; i--) {
            int share = i == 1 ? left : 1 + pick(Math.max(1, left - i + 1));
            int before = tokens.size();
            if ((kind == 14 || kind == 15) && i == operands) blockFor(tokens, kind - 14, share, inner);
            else if (kind >= 18 && kind <= 21 && chance(60)) tokens.add(chance(70) ? new int[] {0, pick(5)} : new int[] {3, 0});
            else if (kind == 10 && i == operands && chance(50)) tokens.add(new int[] {2, 0});
            else if (kind == 9 && chance(40)) blockFor(tokens, pick(2), share, inner);
            else expression(tokens, share, inner);
            left = Math.max(1, left - (tokens.size() - before));
        }
    }

    /** Else hardly any CALL would find a BLOCK, and hardly any BLOCK a HOME that has ended. */
    private void blockFor(List<int[]> tokens, int value, int size, List<Integer> around) {
        if (around.size() == 3 || size < 2 || chance(25)) {
            if (chance(80)) tokens.add(chance(70) ? new int[] {8, pick(4)} : new int[] {4, pick(3)});
            else expression(tokens, size, around);
            return;
        }
        tokens.add(new int[] {12, value});
        List<Integer> inner = new ArrayList<>(around);
        inner.add(value);
        int left = size - 1;
        if (left > 1 && chance(35)) {
            tokens.add(new int[] {17, 0});
            left--;
        }
        expression(tokens, left, inner);
    }

    private void simple(List<int[]> tokens, List<Integer> around) {
        int which = pick(14);
        int kind = which < 3 ? 0 : which == 3 ? 1 : which == 4 ? 2 : which == 5 ? 3 : which < 8 ? 4 : which == 8 ? 6
            : which < 11 ? 8 : which == 11 ? 13 : which == 12 ? 25 : 28;
        int value = 0;
        if (kind == 0) value = pick(6) - 1;
        if (kind == 3) value = pick(2);
        if (kind == 4) value = pick(3);
        if (kind == 6) value = pick(2);
        if (kind == 8) value = pick(4);
        if (kind == 25) value = classes > 4 ? 4 + pick(classes - 4) : 0;
        if (kind == 28) value = 256 * pick(classes) + 16 * pick(12) + pick(Math.max(1, bodies));
        if (kind == 28 && chance(70)) kind = 25;
        if (kind == 25 && value > classes) value = 0;
        if (kind == 13) {
            value = pick(Math.max(1, around.size()));
            if (around.isEmpty() || around.get(around.size() - 1 - value) != 1) kind = 2;
        }
        tokens.add(new int[] {kind, value});
    }
}
