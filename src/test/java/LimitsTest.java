/** The greatest programs that the document allows: nothing may throw, and all answers are still as due. */
public final class LimitsTest {
    private static final Checks T = new Checks("limits");

    public static void main(String[] args) {
        manyOperatorsUnderWay();
        manyActivationsKept();
        manyThingsMade();
        strangeArguments();
        T.end();
    }

    private static void manyOperatorsUnderWay() {
        SendBench x = new SendBench();
        x.cls(0, 0);
        x.create(0, 4);
        Words.method(x, 4, 0, "CLASS ".repeat(30) + "SEND 0 SELF");
        T.is("31 operators in each of 12", x.send(0, 0, 0, 0), SendBench.DEEP);
        Words.method(x, 4, 0, "ENSURE ".repeat(11) + "SEND 0 SELF" + " SAY NIL SAY NIL".repeat(4) + " NIL".repeat(3));
        T.is("many ENSURES", x.send(0, 0, 0, 0), SendBench.DEEP);
        Words.method(x, 4, 4, "IF ARG 0 ENSURE ENSURE ENSURE SEND 4 SELF SUB ARG 0 NUM 1 SAY ARG 0 NIL NIL CALL GLOBAL 1");
        Words.method(x, 4, 0, "THEN STORE 1 BLOCK 0 RETURN NUM 5 SEND 4 SELF NUM 9");
        T.is("RETURN through many", x.send(0, 0, 0, 0), SendBench.OK);
        T.is("RETURN through many", x.result(), 5);
        T.is("RETURN through many", x.taken(1), 12);
        T.is("RETURN through many says", x.says(), 9);
        for (int k = 0; k < 9; k++) T.is("RETURN through many said", x.said(k), k + 1);
    }

    /** Each BLOCK of the list keeps three ACTIVATIONS, and each CALL under way stands within three that have ended. */
    private static void manyActivationsKept() {
        SendBench x = new SendBench();
        x.cls(0, 0);
        x.create(0, 4);
        Words.method(x, 4, 4, "THEN SET 0 GLOBAL 3 THEN SET 1 ARG 0 "
            + "STORE 3 CALL GIVE BLOCK 1 BLOCK 0 BLOCK 1 THEN SAY ADD PARAM 2 PARAM 0 THEN STORE 3 TEMP 0 TEMP 1 ARG 0");
        for (int n = 0; n < 22; n++) T.is("list", x.send(4, 0, n, 0), SendBench.OK);
        T.is("list", x.reachable(), 23);
        Words.method(x, 4, 1, "CALL CALL BLOCK 0 BLOCK 0 BLOCK 0 CALL SEND 1 SELF");
        Words.method(x, 4, 0, "CALL SEND 1 SELF");
        T.is("CALLS within what has ended", x.send(0, 0, 0, 0), SendBench.DEEP);
        T.is("CALLS within what has ended", x.taken(1), 12);
        Words.method(x, 4, 5, "GIVE GLOBAL 3 ARG 0");
        for (int n = 21; n >= 0; n--) {
            T.is("list back", x.send(5, 0, 1000, 0), SendBench.OK);
            T.is("list back", x.said(0), 1000 + n);
            T.is("list back", x.result(), n);
            T.is("list back", x.reachable(), 1 + n);
        }
    }

    private static void manyThingsMade() {
        SendBench x = new SendBench();
        x.cls(0, 0);
        x.create(0, 4);
        Words.method(x, 4, 0, "WHILE NUM 1 THEN THEN THEN NEW 4 NEW 4 THEN NEW 4 NEW 4 THEN THEN NEW 4 NEW 4 THEN NEW 4 NEW 4");
        for (int n = 0; n < 400; n++) T.is("run", x.send(0, 0, 0, 0), SendBench.LONG);
        T.is("made", x.taken(2), 1 + 400 * 199 * 8);
        T.is("number", x.create(1, 4), 1 + 400 * 199 * 8);
        T.is("reachable", x.reachable(), 2);
    }

    private static void strangeArguments() {
        int[] odd = {Integer.MIN_VALUE, -257, -17, -2, -1, 0, 3, 4, 11, 12, 31, 32, 256, 2559, 2560, Integer.MAX_VALUE};
        for (int a : odd) {
            for (int b : odd) {
                SendBench x = new SendBench();
                x.cls(a, b);
                x.token(a, b);
                x.body();
                x.place();
                x.global(a, b);
                x.create(a, b);
                x.send(a, b, a, b);
                x.send(b, a, a, b);
                x.read(a);
                x.field(a, b);
                x.finds(a, b);
                x.said(a);
                x.taken(a);
                for (int c : odd) x.bind(a, b, c);
                T.is("classes", x.taken(3), a == 0 && b >= 0 && b <= 4 ? 5 : 4);
                T.is("runs", x.taken(0), 0);
            }
        }
    }
}
