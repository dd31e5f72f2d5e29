/** The greatest programs that the document allows: nothing may throw, and all answers are still as due. */
public final class LimitsTest {
    private static final Checks T = new Checks("limits");

    public static void main(String[] args) {
        manyOperatorsUnderWay();
        allTokensUnderWay();
        allTokensUnderWayOnce();
        manyActivationsKept();
        manyThingsMade();
        strangeArguments();
        manyCalls();
        T.end();
    }

    private static void manyOperatorsUnderWay() {
        SendBench x = new SendBench();
        x.cls(0, 0);
        x.create(0, 4);
        Words.method(x, 4, 0, "CLASS ".repeat(30) + "SEND 0 SELF");
        T.is("31 operators in each of 12", x.send(0, 0, 0, 0), SendBench.DEEP);
        Words.method(x, 4, 0, "ENSURE ".repeat(11) + "SEND 0 SELF" + " SAY NIL SAY NIL".repeat(4) + " NIL".repeat(3));
        T.is("many ENSURES", x.send(0, 0, 0, 0), SendBench.DEEP);
        Words.method(x, 4, 4, "IF ARG 0 ENSURE ENSURE ENSURE SEND 4 SELF SUB ARG 0 NUM 1 SAY ARG 0 NIL NIL CALL GLOBAL 1");
        Words.method(x, 4, 0, "THEN STORE 1 BLOCK 0 RETURN NUM 5 SEND 4 SELF NUM 9");
        T.is("RETURN through many", x.send(0, 0, 0, 0), SendBench.OK);
        T.is("RETURN through many", x.result(), 5);
        T.is("RETURN through many", x.taken(1), 12);
        T.is("RETURN through many says", x.says(), 9);
        for (int k = 0; k < 9; k++) T.is("RETURN through many said", x.said(k), k + 1);
    }

    /** A SUPER without operands is an operator as well: all 32 tokens of all 12 can be under way when another would begin. */
    private static void allTokensUnderWay() {
        String[] operators = {"SAY ", "CLASS ", "SET 2 ", "PUT 0 ", "STORE 3 ", "CALL ", "RETURN ", "SEND 1 "};
        for (String operator : operators) {
            for (int s = 0; s < 4; s++) {
                String program = operator.repeat(31) + "SUPER " + s;
                for (int first : new int[] {0, 3, 11}) {
                    underWay(program, 0, first);
                    underWay(program, 2, first);
                }
            }
        }
        underWay("SAY CLASS SET 0 STORE 3 PUT 1 CALL SEND 2 RETURN ".repeat(3) + "SAY ".repeat(7) + "SUPER 3", 2, 0);
    }

    /** Class c has the program for 11, which each SUPER comes to, and NIL has it for 3 as well; the run begins with s. */
    private static void underWay(String program, int c, int s) {
        SendBench x = new SendBench();
        Words.method(x, c, 11, program);
        x.bind(2, 3, 0);
        String name = program + " for class " + c + " and selector " + s;
        T.is(name, x.send(s, 0, 0, 0), SendBench.DEEP);
        T.is(name + ", STEPS", x.taken(0), 13);
        T.is(name + ", at work", x.taken(1), 12);
        T.is(name + ", says", x.says(), 0);
        T.is(name + ", result", x.result(), -SendBench.NIL);
        T.is(name + ", GLOBAL", x.read(3), SendBench.NIL);
        T.is(name + ", reachable", x.reachable(), 0);
        T.is(name + " again", x.send(s, 0, 0, 0), SendBench.DEEP);
        Words.method(x, 2, s, "SAY ".repeat(31) + "NUM 7");
        T.is("after " + name, x.send(s, 0, 0, 0), SendBench.OK);
        T.is("after " + name, x.result(), 7);
        T.is("after " + name, x.says(), 31);
    }

    /** Eleven of the twelve have all their tokens under way, and the last one has one fewer: it all comes back. */
    private static void allTokensUnderWayOnce() {
        SendBench x = new SendBench();
        int[] chain = {0, 4, 5, 6, 7, 8, 9};
        for (int i = 1; i < chain.length; i++) x.cls(chain[i - 1], 0);
        x.create(0, 9);
        Words.method(x, 0, 0, "SAY ".repeat(31) + "SUPER 0");
        for (int c : chain) x.bind(c, 0, 0);
        Words.method(x, 9, 11, "SAY ".repeat(31) + "SUPER 1");
        for (int c = 6; c < 9; c++) x.bind(c, 1, 1);
        Words.method(x, 5, 1, "SAY ".repeat(31) + "NUM 5");
        T.is("7 by SUPER 0, then by 11, then 4 by SUPER 1", x.send(0, 0, 0, 0), SendBench.OK);
        T.is("12 come back", x.result(), 5);
        T.is("12 come back", x.taken(0), 12);
        T.is("12 come back", x.taken(1), 12);
        T.is("12 come back", x.says(), 12 * 31);
        x.bind(5, 1, 1);
        T.is("none comes back", x.send(0, 0, 0, 0), SendBench.DEEP);
        T.is("none comes back", x.says(), 0);
    }

    /** Each BLOCK of the list keeps three ACTIVATIONS, and each CALL under way stands within three that have ended. */
    private static void manyActivationsKept() {
        SendBench x = new SendBench();
        x.cls(0, 0);
        x.create(0, 4);
        Words.method(x, 4, 4, "THEN SET 0 GLOBAL 3 THEN SET 1 ARG 0 "
            + "STORE 3 CALL GIVE BLOCK 1 BLOCK 0 BLOCK 1 THEN SAY ADD PARAM 2 PARAM 0 THEN STORE 3 TEMP 0 TEMP 1 ARG 0");
        for (int n = 0; n < 22; n++) T.is("list", x.send(4, 0, n, 0), SendBench.OK);
        T.is("list", x.reachable(), 23);
        Words.method(x, 4, 1, "CALL CALL BLOCK 0 BLOCK 0 BLOCK 0 CALL SEND 1 SELF");
        Words.method(x, 4, 0, "CALL SEND 1 SELF");
        T.is("CALLS within what has ended", x.send(0, 0, 0, 0), SendBench.DEEP);
        T.is("CALLS within what has ended", x.taken(1), 12);
        Words.method(x, 4, 5, "GIVE GLOBAL 3 ARG 0");
        for (int n = 21; n >= 0; n--) {
            T.is("list back", x.send(5, 0, 1000, 0), SendBench.OK);
            T.is("list back", x.said(0), 1000 + n);
            T.is("list back", x.result(), n);
            T.is("list back", x.reachable(), 1 + n);
        }
    }

    private static void manyThingsMade() {
        SendBench x = new SendBench();
        x.cls(0, 0);
        x.create(0, 4);
        Words.method(x, 4, 0, "WHILE NUM 1 THEN THEN THEN NEW 4 NEW 4 THEN NEW 4 NEW 4 THEN THEN NEW 4 NEW 4 THEN NEW 4 NEW 4");
        for (int n = 0; n < 400; n++) T.is("run", x.send(0, 0, 0, 0), SendBench.LONG);
        T.is("made", x.taken(2), 1 + 400 * 199 * 8);
        T.is("number", x.create(1, 4), 1 + 400 * 199 * 8);
        T.is("reachable", x.reachable(), 2);
    }

    private static void strangeArguments() {
        int[] odd = {Integer.MIN_VALUE, -257, -17, -2, -1, 0, 3, 4, 11, 12, 31, 32, 256, 2559, 2560, Integer.MAX_VALUE};
        for (int a : odd) {
            for (int b : odd) {
                SendBench x = new SendBench();
                x.cls(a, b);
                x.token(a, b);
                x.body();
                x.place();
                x.global(a, b);
                x.create(a, b);
                x.send(a, b, a, b);
                x.send(b, a, a, b);
                x.read(a);
                x.field(a, b);
                x.finds(a, b);
                x.said(a);
                x.taken(a);
                for (int c : odd) x.bind(a, b, c);
                T.is("classes", x.taken(3), a == 0 && b >= 0 && b <= 4 ? 5 : 4);
                T.is("runs", x.taken(0), 0);
            }
        }
    }

    /** What an object answers after its 512th call is free, but no call may throw. */
    private static void manyCalls() {
        SendBench x = new SendBench();
        x.cls(0, 2);
        long seed = 1;
        for (int n = 0; n < 200000; n++) {
            seed = seed * 6364136223846793005L + 1442695040888963407L;
            int a = (int) (seed >>> 33) % 40 - 4;
            int b = (int) (seed >>> 40) % 16 - 2;
            int c = (int) (seed >>> 47) % 16 - 2;
            oneCall(x, (int) (seed >>> 58) % 16, a, b, c);
        }
        T.is("classes at the end", x.taken(3), 10);
        T.is("BODIES at the end", x.taken(4), 12);
    }

    private static void oneCall(SendBench x, int which, int a, int b, int c) {
        switch (which) {
            case 0: x.cls(b, c); break;
            case 1: x.wipe(); break;
            case 2: case 3: x.body(); break;
            case 4: x.bind(a, b, c); break;
            case 5: x.create(b, c); break;
            case 6: case 7: x.send(b, c, a, b); break;
            case 8: x.field(b, c); break;
            case 9: x.reachable(); break;
            default: x.token(a, b); break;
        }
    }
}
