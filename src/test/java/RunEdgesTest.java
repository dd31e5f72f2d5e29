/** The boundary cases of what a run does, sentence by sentence: VALUES, messages, BLOCKS, RETURN, ENSURE, what ends it. */
public final class RunEdgesTest {
    private static final int MIN = Integer.MIN_VALUE;
    private static final int MAX = Integer.MAX_VALUE;
    private static final long NIL = Benches.NIL;
    private static final Checks T = new Checks("run edges");
    private static final Benches B = new Benches(T);

    public static void main(String[] args) {
        order();
        variables();
        fieldsOfSelf();
        fieldsOfParents();
        classesOfReceivers();
        farthestParent();
        superOfClasses();
        notFound();
        strange();
        calls();
        blocksKeep();
        wraps();
        less();
        kindOfReckoning();
        same();
        ifs();
        whiles();
        bindsWhileRunning();
        returns();
        dead();
        ensures();
        secondOnes();
        returnsInSecondOnes();
        T.end();
    }

    private static SendBench run(String program, int due) {
        SendBench x = Benches.bench(program);
        T.is("send of " + program, x.send(0, 0, 0, 0), due);
        return x;
    }

    private static void order() {
        T.sentence("Operands are worked out from the first to the last");
        for (String kind : new String[] {"ADD", "SUB", "MUL", "LESS", "SAME", "THEN", "ENSURE"}) {
            B.says(run(kind + " SAY NUM 1 SAY NUM 2", SendBench.OK), kind, 1, 2);
        }
        B.says(run("GIVE SAY BLOCK 1 NIL SAY NUM 2", SendBench.OK), "GIVE", Benches.block(1), 2);
        SendBench x = run("NIL", SendBench.OK);
        Words.method(x, 0, 8, "NIL");
        Words.method(x, 4, 1, "SEND 8 SAY SELF SAY NUM 1 SAY NUM 2");
        Words.method(x, 4, 8, "SUPER 8 SAY NUM 3 SAY NUM 4");
        x.send(1, 0, 0, 0);
        B.says(x, "SEND and SUPER", Benches.object(0), 1, 2, 3, 4);
    }

    private static void variables() {
        T.sentence("SET, PUT, STORE: TEMP, FIELD of SELF, GLOBAL becomes E, and that it is worth");
        SendBench x = new SendBench();
        x.cls(0, 4);
        x.create(0, 4);
        Words.method(x, 4, 0, "THEN SET 0 NUM 1 THEN SET 1 NUM 2 THEN SET 2 NUM 3 THEN SAY TEMP 0 THEN SAY TEMP 1 SAY TEMP 2");
        x.send(0, 0, 0, 0);
        B.says(x, "TEMPS", 1, 2, 3);
        Words.method(x, 4, 1, "THEN SAY PUT 0 NUM 1 THEN SAY PUT 1 NUM 2 THEN SAY PUT 2 NUM 3 SAY PUT 3 NUM 4");
        x.send(1, 0, 0, 0);
        B.says(x, "PUT", 1, 2, 3, 4);
        for (int j = 0; j < 4; j++) T.is("FIELD " + j, x.field(0, j), j + 1);
        Words.method(x, 4, 2, "THEN SAY STORE 1 NUM 6 THEN SAY STORE 2 NUM 7 THEN SAY STORE 3 NUM 8 SAY STORE 0 NUM 5");
        x.send(2, 0, 0, 0);
        B.says(x, "STORE", 6, 7, 8, 5);
        for (int k = 0; k < 4; k++) T.is("GLOBAL " + k, x.read(k), k + 5);
        T.sentence("TEMPS (NIL at first)");
        for (int v = 0; v < 3; v++) {
            B.gives("TEMP " + v, NIL);
            SendBench y = Benches.bench("SET " + v + " NUM 9");
            Words.method(y, 4, 1, "TEMP " + v);
            y.send(0, 0, 0, 0);
            y.send(1, 0, 0, 0);
            T.is("TEMP " + v + " of the next ACTIVATION", y.result(), NIL);
        }
        SendBench z = new SendBench();
        z.cls(0, 0);
        z.create(0, 4);
        Words.method(z, 4, 8, "THEN SAY TEMP 0 THEN SAY SET 0 NUM 5 THEN SAY SET 2 NUM 6 THEN SAY ARG 0 THEN SAY ARG 1 SAY SELF");
        z.send(8, 0, 31, 32);
        B.says(z, "TEMPS are not ARGS", NIL, 5, 6, 31, 32, Benches.object(0));
        Words.method(z, 4, 0, "GIVE BLOCK 1 THEN SET 2 NUM 5 THEN SAY PARAM 0 SAY TEMP 2 NUM 9");
        z.send(0, 0, 0, 0);
        B.says(z, "TEMPS are not PARAMS", 9, 5);
        T.sentence("OBJECTS (of a class, with its FIELDS, NIL at first)");
        for (int j = 0; j < 4; j++) {
            SendBench y = new SendBench();
            y.cls(0, 4);
            y.create(0, 4);
            Words.method(y, 4, 0, "FIELD " + j);
            T.is("send", y.send(0, 0, 0, 0), SendBench.OK);
            T.is("FIELD " + j, y.result(), NIL);
        }
    }

    private static void fieldsOfSelf() {
        T.sentence("FIELD and (when E is worked out) PUT: KIND if SELF has no such FIELD");
        for (int fields = 0; fields <= 4; fields++) {
            for (int j = 0; j < 4; j++) {
                SendBench x = new SendBench();
                x.cls(0, fields);
                x.create(0, 4);
                Words.method(x, 4, 0, "THEN FIELD " + j + " SAY NUM 3");
                Words.method(x, 4, 1, "PUT " + j + " SAY STORE 1 NUM 2");
                T.is("FIELD " + j + " of " + fields, x.send(0, 0, 0, 0), j < fields ? SendBench.OK : SendBench.KIND);
                T.is("says", x.says(), j < fields ? 1 : 0);
                T.is("PUT " + j + " of " + fields, x.send(1, 0, 0, 0), j < fields ? SendBench.OK : SendBench.KIND);
                B.says(x, "E is worked out", 2);
                T.is("what was done stays", x.read(1), 2);
                T.is("FIELD", x.field(0, j), j < fields ? 2 : Benches.NOTHING);
            }
        }
        SendBench x = new SendBench();
        x.create(0, 0);
        x.global(1, 0);
        Words.method(x, 2, 0, "STORE 3 BLOCK 0 NIL");
        x.send(0, 2, 0, 0);
        Words.method(x, 0, 1, "FIELD 0");
        Words.method(x, 0, 2, "PUT 0 NUM 1");
        for (int k = 0; k < 4; k++) {
            T.is("FIELD of GLOBAL " + k, x.send(1, k, 0, 0), SendBench.KIND);
            T.is("PUT of GLOBAL " + k, x.send(2, k, 0, 0), SendBench.KIND);
        }
    }

    private static void fieldsOfParents() {
        T.sentence("they have FIELDS: those of the PARENT first, then their own");
        SendBench x = new SendBench();
        x.cls(0, 1);
        x.cls(4, 2);
        x.cls(5, 1);
        x.create(0, 6);
        Words.method(x, 4, 0, "PUT 0 NUM 1");
        Words.method(x, 5, 1, "PUT 2 NUM 3");
        Words.method(x, 6, 2, "PUT 3 NUM 4");
        for (int s = 0; s < 3; s++) T.is("send", x.send(s, 0, 0, 0), SendBench.OK);
        T.is("the first of the PARENT'S PARENT", x.field(0, 0), 1);
        T.is("not put", x.field(0, 1), NIL);
        T.is("the last of the PARENT", x.field(0, 2), 3);
        T.is("its own", x.field(0, 3), 4);
        for (int c = 4; c < 7; c++) {
            x.create(1, c);
            int has = c == 4 ? 1 : c == 5 ? 3 : 4;
            for (int j = 0; j < 5; j++) T.is("class " + c + " FIELD " + j, x.field(1, j), j < has ? NIL : Benches.NOTHING);
        }
    }

    private static void classesOfReceivers() {
        T.sentence("0, and 1 (of INTS), 2 (of NIL), 3 (of BLOCKS), whose PARENT is 0");
        SendBench x = new SendBench();
        x.cls(0, 0);
        for (int n = 0; n < 5; n++) Words.body(x, "NUM " + (100 + n));
        for (int c = 1; c < 5; c++) x.bind(c, 0, c);
        x.bind(0, 0, 0);
        Words.method(x, 0, 1, "THEN SAY SEND 0 NUM 0 THEN SAY SEND 0 NIL THEN SAY SEND 0 BLOCK 0 NIL "
            + "THEN SAY SEND 0 BLOCK 1 NIL THEN SAY SEND 0 NEW 0 SAY SEND 0 NEW 4");
        x.send(1, 0, 0, 0);
        B.says(x, "each its own", 101, 102, 103, 103, 100, 104);
        for (int c = 1; c < 5; c++) x.bind(c, 0, -1);
        x.send(1, 0, 0, 0);
        B.says(x, "all of 0", 100, 100, 100, 100, 100, 100);
        T.sentence("CLASS: the number of E's class");
        Words.method(x, 0, 2, "THEN SAY CLASS NUM 0 THEN SAY CLASS NIL THEN SAY CLASS BLOCK 0 NIL "
            + "THEN SAY CLASS BLOCK 1 NIL THEN SAY CLASS NEW 0 SAY CLASS NEW 4");
        x.send(2, 0, 0, 0);
        B.says(x, "CLASS", 1, 2, 3, 3, 0, 4);
    }

    private static void farthestParent() {
        T.sentence("FOUND for a class and a SELECTOR in that class if it has one, else in its PARENT, and so on");
        SendBench x = new SendBench();
        x.cls(0, 0);
        for (int c = 5; c < 10; c++) x.cls(c - 1, 0);
        x.create(0, 9);
        Words.body(x, "NUM 7");
        T.is("none", x.send(0, 0, 0, 0), SendBench.STRANGE);
        for (int c : new int[] {0, 4, 5, 6, 7, 8, 9}) {
            x.bind(c, 0, 0);
            T.is("finds from 9", x.finds(9, 0), c);
            T.is("send", x.send(0, 0, 0, 0), SendBench.OK);
            T.is("result", x.result(), 7);
            if (c > 4) T.is("finds from the PARENT", x.finds(c - 1, 0), c - 1);
        }
        for (int c : new int[] {9, 8, 7, 6, 5, 4, 0}) {
            T.is("finds", x.finds(9, 0), c);
            x.bind(c, 0, -1);
        }
        T.is("none again", x.send(0, 0, 0, 0), SendBench.STRANGE);
    }

    private static void superOfClasses() {
        T.sentence("FOUND for the PARENT of the class in which the BODY of the HOME was FOUND (for 0 none is)");
        SendBench x = new SendBench();
        x.cls(0, 0);
        x.cls(4, 0);
        x.create(0, 5);
        Words.method(x, 0, 0, "NUM 1");
        Words.method(x, 4, 0, "ADD NUM 10 SUPER 0");
        Words.method(x, 5, 0, "ADD NUM 100 CALL BLOCK 0 SUPER 0");
        x.send(0, 0, 0, 0);
        T.is("from 5 to 0", x.result(), 111);
        x.bind(5, 0, -1);
        x.send(0, 0, 0, 0);
        T.is("FOUND in the PARENT of SELF's class", x.result(), 11);
        Words.method(x, 1, 0, "ADD NUM 1000 SUPER 0");
        x.global(1, 0);
        x.send(0, 1, 0, 0);
        T.is("from 1 to 0", x.result(), 1001);
        Words.method(x, 0, 0, "SUPER 0");
        T.is("from 0", x.send(0, 0, 0, 0), SendBench.STRANGE);
        T.is("from 0, STEPS", x.taken(0), 2);
        Words.method(x, 4, 11, "NUM 5");
        T.is("from 0, with 11 for the class of SELF", x.send(0, 0, 0, 0), SendBench.OK);
        T.is("from 0, with 11 for the class of SELF", x.result(), 15);
        SendBench y = new SendBench();
        y.cls(0, 0);
        y.cls(4, 0);
        y.create(0, 5);
        Words.method(y, 0, 0, "NUM 1");
        Words.method(y, 4, 0, "NUM 2");
        Words.method(y, 4, 11, "SUPER 0");
        y.send(1, 0, 0, 0);
        T.is("11 was FOUND in 4", y.result(), 1);
        Words.method(y, 4, 1, "THEN BIND 5 1 0 SUPER 0");
        y.send(1, 0, 0, 0);
        T.is("was FOUND in 4, and 5 has one by now", y.result(), 1);
        T.is("finds", y.finds(5, 1), 5);
        T.sentence("an ACTIVATION of the BODY that is FOUND: when the operands are worked out");
        Words.method(y, 4, 2, "SEND 4 SELF BIND 4 4 1");
        T.is("send", y.send(2, 0, 0, 0), SendBench.OK);
        T.is("BIND among the operands", y.result(), 2);
    }

    private static void notFound() {
        T.sentence("If none is FOUND: that for SELECTOR 11, with the INT s and the first argument (or NIL) as ARGS");
        for (int s = 0; s < 11; s++) {
            SendBench x = new SendBench();
            x.cls(0, 0);
            x.create(0, 4);
            Words.method(x, 0, 11, "THEN SAY SELF THEN SAY ARG 0 SAY ARG 1");
            long first = s < 4 ? NIL : 31;
            T.is("send(" + s + ")", x.send(s, 0, 31, 32), SendBench.OK);
            B.says(x, "send(" + s + ")", Benches.object(0), s, first);
            T.is("an ACTIVATION", x.taken(0), 1);
            int t = s == 0 ? 1 : 0;
            Words.method(x, 4, t, "SEND " + s + " SELF" + " NUM 31".repeat(s < 4 ? 0 : 1) + " NUM 32".repeat(s < 8 ? 0 : 1));
            x.send(t, 0, 0, 0);
            B.says(x, "SEND " + s, Benches.object(0), s, first);
            Words.method(x, 4, t, "SUPER " + s + " NUM 31".repeat(s < 4 ? 0 : 1) + " NUM 32".repeat(s < 8 ? 0 : 1));
            x.send(t, 0, 0, 0);
            B.says(x, "SUPER " + s, Benches.object(0), s, first);
        }
        SendBench x = new SendBench();
        x.cls(0, 0);
        x.create(0, 4);
        Words.method(x, 0, 11, "THEN SAY ARG 0 SAY ARG 1");
        x.send(11, 0, 31, 32);
        B.says(x, "11 that is FOUND has its own arguments", 31, 32);
        Words.method(x, 4, 11, "IF SAME ARG 0 NUM 31 SUPER 11 NUM 33 NUM 34 NIL");
        x.send(11, 0, 31, 32);
        B.says(x, "SUPER 11 that is FOUND", 33, 34);
        x.bind(0, 11, -1);
        Words.method(x, 4, 11, "IF SAME ARG 0 NUM 31 SUPER 11 NUM 33 NUM 34 THEN SAY ARG 0 SAY ARG 1");
        x.send(11, 0, 31, 32);
        B.says(x, "SUPER 11 that is not FOUND, but for the class of SELF", 11, 33);
    }

    private static void strange() {
        T.sentence("if there is none: STRANGE");
        for (int s = 0; s < 12; s++) {
            SendBench x = new SendBench();
            x.cls(0, 0);
            x.cls(0, 0);
            x.create(0, 4);
            Words.method(x, 5, s, "NIL");
            Words.method(x, 5, 11, "NIL");
            T.is("send(" + s + ")", x.send(s, 0, 0, 0), SendBench.STRANGE);
            T.is("STEPS", x.taken(0), 0);
            T.is("at work", x.taken(1), 0);
            x.bind(0, 11, 1);
            T.is("send(" + s + ") with 11", x.send(s, 0, 0, 0), SendBench.OK);
        }
        B.says(run("SEND 8 SELF SAY NUM 1 SAY NUM 2", SendBench.STRANGE), "when the operands are worked out", 1, 2);
        B.says(run("SUPER 8 SAY NUM 1 SAY NUM 2", SendBench.STRANGE), "when the operands are worked out", 1, 2);
    }

    private static void calls() {
        T.sentence("CALL, GIVE: a BLOCK with value 0, with value 1 and the second E as PARAM; else KIND");
        B.gives("CALL BLOCK 0 NUM 5", 5);
        B.gives("GIVE BLOCK 1 PARAM 0 NUM 6", 6);
        for (String no : new String[] {"BLOCK 1 NIL", "NIL", "NUM 0", "NUM 1", "SELF", "NEW 0"}) B.ends("CALL " + no, SendBench.KIND);
        for (String no : new String[] {"BLOCK 0 NIL", "NIL", "NUM 0", "NUM 1", "SELF", "NEW 0"}) {
            B.ends("GIVE " + no + " NUM 1", SendBench.KIND);
        }
        T.sentence("PARAM j is that of the j-th BLOCK around");
        for (int j = 0; j < 3; j++) {
            B.gives("GIVE GIVE GIVE BLOCK 1 BLOCK 1 BLOCK 1 PARAM " + j + " NUM 12 NUM 11 NUM 10", 10 + j);
        }
        T.sentence("ADD, SUB, MUL, LESS, CALL and GIVE: KIND is tested when all operands are worked out");
        for (String kind : new String[] {"ADD", "SUB", "MUL", "LESS", "GIVE"}) {
            B.says(run(kind + " SAY NIL SAY NUM 2", SendBench.KIND), kind, NIL, 2);
        }
        B.says(run("CALL SAY NUM 4", SendBench.KIND), "CALL", 4);
    }

    private static void blocksKeep() {
        T.sentence("A BLOCK keeps the ACTIVATION in which it was made, with all that this has, also when it has ended");
        SendBench x = Benches.bench("THEN SET 0 BLOCK 1 BLOCK 0 SAY PARAM 1 THEN SET 1 GIVE TEMP 0 NUM 1 "
            + "THEN SET 2 GIVE TEMP 0 NUM 2 THEN CALL TEMP 1 CALL TEMP 2");
        T.is("send", x.send(0, 0, 0, 0), SendBench.OK);
        B.says(x, "each its own PARAM", 1, 2);
        Words.method(x, 4, 4, "THEN SET 0 ARG 0 THEN STORE 1 BLOCK 1 SET 0 ADD TEMP 0 PARAM 0 STORE 2 BLOCK 0 TEMP 0");
        Words.method(x, 0, 5, "GIVE GLOBAL 1 ARG 0");
        Words.method(x, 0, 1, "CALL GLOBAL 2");
        x.send(4, 0, 10, 0);
        x.send(5, 3, 7, 0);
        T.is("TEMP of an ended HOME", x.result(), 17);
        x.send(1, 3, 0, 0);
        T.is("two BLOCKS of one ACTIVATION", x.result(), 17);
        x.send(4, 0, 20, 0);
        x.send(1, 3, 0, 0);
        T.is("a BLOCK of another ACTIVATION", x.result(), 20);
        Words.method(x, 4, 8, "THEN PUT 1 NUM 3 STORE 1 BLOCK 1 THEN SAY SELF THEN SAY ARG 0 THEN SAY ARG 1 THEN SAY FIELD 1 SAY PARAM 0");
        x.send(8, 0, 31, 32);
        x.global(0, 0);
        T.is("send", x.send(5, 3, 9, 0), SendBench.OK);
        B.says(x, "SELF, ARGS and FIELD of an ended HOME", Benches.object(0), 31, 32, 3, 9);
    }

    private static void reckons(String kind, int a, int b, long due) {
        B.gives(kind + " NUM " + a + " NUM " + b, due);
        SendBench x = new SendBench();
        Words.method(x, 2, 8, kind + " ARG 0 ARG 1");
        x.send(8, 0, a, b);
        T.is(kind + " of " + a + " and " + b, x.result(), due);
    }

    private static void wraps() {
        T.sentence("ADD, SUB, MUL (they wrap)");
        int[] edges = {MIN, MIN + 1, -65537, -65536, -46341, -46340, -1, 0, 1, 46340, 46341, 65535, 65536, MAX - 1, MAX};
        for (int a : edges) {
            for (int b : edges) {
                reckons("ADD", a, b, a + b);
                reckons("SUB", a, b, a - b);
                reckons("MUL", a, b, a * b);
            }
        }
        reckons("ADD", MAX, 1, MIN);
        reckons("ADD", MAX - 1, 1, MAX);
        reckons("SUB", MIN, 1, MAX);
        reckons("SUB", 0, MIN, MIN);
        reckons("MUL", MIN, -1, MIN);
        reckons("MUL", 46341, 46341, -2147479015);
        reckons("MUL", MAX, MAX, 1);
    }

    private static void less() {
        T.sentence("LESS (1 or 0)");
        int[] edges = {MIN, MIN + 1, -1, 0, 1, MAX - 1, MAX};
        for (int i = 0; i < edges.length; i++) {
            for (int j = 0; j < edges.length; j++) reckons("LESS", edges[i], edges[j], i < j ? 1 : 0);
        }
    }

    private static void kindOfReckoning() {
        T.sentence("of INTS, else KIND");
        for (String kind : new String[] {"ADD", "SUB", "MUL", "LESS"}) {
            for (String no : new String[] {"NIL", "SELF", "NEW 0", "BLOCK 0 NIL"}) {
                B.ends(kind + " " + no + " NUM 1", SendBench.KIND);
                B.ends(kind + " NUM 1 " + no, SendBench.KIND);
                B.ends(kind + " " + no + " " + no, SendBench.KIND);
            }
        }
    }

    private static void same() {
        T.sentence("SAME: 1 if both are the same INT, OBJECT, BLOCK, or NIL, else 0");
        String[] all = {"NUM 0", "NUM 1", "NUM -1", "NUM " + MIN, "NUM " + MAX, "NIL", "GLOBAL 0", "GLOBAL 1", "GLOBAL 2", "GLOBAL 3"};
        for (int i = 0; i < all.length; i++) {
            for (int j = 0; j < all.length; j++) {
                SendBench x = new SendBench();
                x.create(0, 0);
                x.create(1, 0);
                Words.method(x, 0, 0, "THEN STORE 2 BLOCK 0 NIL STORE 3 BLOCK 0 NIL");
                x.send(0, 0, 0, 0);
                Words.method(x, 0, 1, "SAME " + all[i] + " " + all[j]);
                T.is("send", x.send(1, 0, 0, 0), SendBench.OK);
                T.is("SAME " + all[i] + " " + all[j], x.result(), i == j ? 1 : 0);
            }
        }
    }

    private static void ifs() {
        T.sentence("IF: the second E if the first is neither NIL nor the INT 0, else the third");
        for (String no : new String[] {"NIL", "NUM 0", "SUB NUM 5 NUM 5"}) {
            B.says(run("IF " + no + " SAY NUM 1 SAY NUM 2", SendBench.OK), "IF " + no, 2);
        }
        for (String yes : new String[] {"NUM 1", "NUM -1", "NUM " + MIN, "NUM " + MAX, "SELF", "BLOCK 0 NIL"}) {
            B.says(run("IF " + yes + " SAY NUM 1 SAY NUM 2", SendBench.OK), "IF " + yes, 1);
        }
        B.gives("IF NUM 1 NIL NUM 2", NIL);
        B.gives("IF NUM 0 NUM 2 NIL", NIL);
        B.gives("ADD IF NUM 1 NUM 2 NUM 3 NUM 40", 42);
        B.gives("ADD IF NUM 0 NUM 2 NUM 3 NUM 40", 43);
    }

    private static void whiles() {
        T.sentence("WHILE: as long as the first E is such, the second; worth NIL");
        for (String no : new String[] {"NIL", "NUM 0"}) {
            SendBench x = run("WHILE " + no + " SAY NUM 1", SendBench.OK);
            B.says(x, "not once");
            T.is("worth", x.result(), NIL);
            T.is("STEPS", x.taken(0), 2);
        }
        for (String yes : new String[] {"NUM 1", "NUM -1", "SELF", "BLOCK 0 NIL"}) {
            SendBench x = run("WHILE IF TEMP 0 NIL " + yes + " SET 0 SAY NUM 5", SendBench.OK);
            B.says(x, "once", 5);
            T.is("worth", x.result(), NIL);
            T.is("STEPS", x.taken(0), 3);
        }
        B.gives("ADD CLASS WHILE NIL NUM 1 NUM 40", 42);
        B.gives("THEN WHILE NIL NUM 1 NUM 40", 40);
    }

    private static void bindsWhileRunning() {
        T.sentence("BIND: class c has BODY b for s from now on; NIL");
        for (int c : new int[] {0, 1, 2, 3, 4, 9}) {
            for (int s : new int[] {0, 3, 4, 11}) {
                SendBench x = new SendBench();
                for (int n = 4; n < 10; n++) x.cls(0, 0);
                x.create(0, 9);
                Words.body(x, "NUM 77");
                Words.body(x, "BIND " + c + " " + s + " 0");
                x.bind(9, 1, 1);
                T.is("finds before", x.finds(c, s), -1);
                T.is("send", x.send(1, 0, 0, 0), SendBench.OK);
                T.is("worth", x.result(), NIL);
                T.is("finds after", x.finds(c, s), c);
            }
        }
        SendBench x = new SendBench();
        for (int b = 0; b < 11; b++) Words.body(x, "NUM " + b);
        Words.body(x, "THEN BIND 2 0 10 SEND 0 NIL");
        x.bind(2, 0, 9);
        x.bind(2, 1, 11);
        x.send(1, 0, 0, 0);
        T.is("the BODY before the last", x.result(), 10);
        SendBench y = new SendBench();
        Words.body(y, "NUM 1");
        Words.method(y, 2, 0, "THEN BIND 2 0 0 NUM 2");
        y.send(0, 0, 0, 0);
        T.is("the ACTIVATION goes on with its BODY", y.result(), 2);
        y.send(0, 0, 0, 0);
        T.is("the next one has the new one", y.result(), 1);
    }

    private static void returns() {
        T.sentence("RETURN E: the HOME ends with this, and with it all ACTIVATIONS that began after it and are at work");
        B.gives("ADD NIL RETURN NUM 5", 5);
        B.gives("THEN RETURN NUM 5 NUM 6", 5);
        B.gives("ADD NUM 1 CALL BLOCK 0 THEN RETURN NUM 5 NUM 6", 5);
        SendBench x = Benches.bench("ADD NUM 100 SEND 1 SELF");
        Words.method(x, 4, 1, "THEN SEND 4 SELF BLOCK 0 RETURN NUM 5 SAY NUM 1");
        Words.method(x, 4, 4, "THEN CALL BLOCK 0 THEN CALL ARG 0 SAY NUM 2 SAY NUM 3");
        T.is("send", x.send(0, 0, 0, 0), SendBench.OK);
        T.is("who called the HOME goes on", x.result(), 105);
        B.says(x, "those that began after it do not");
        T.is("at work at most", x.taken(1), 5);
    }

    private static void dead() {
        T.sentence("DEAD, if it is not at work any more");
        SendBench x = Benches.bench("THEN SET 0 BLOCK 0 RETURN SAY NUM 5 CALL TEMP 0");
        T.is("HOME at work", x.send(0, 0, 0, 0), SendBench.OK);
        T.is("HOME at work", x.result(), 5);
        Words.method(x, 4, 1, "BLOCK 0 RETURN SAY NUM 5");
        Words.method(x, 4, 2, "CALL SEND 1 SELF");
        T.is("HOME ended", x.send(2, 0, 0, 0), SendBench.DEAD);
        B.says(x, "HOME ended: E is worked out", 5);
        T.is("HOME ended", x.result(), Benches.NOTHING);
        T.is("HOME ended, STEPS", x.taken(0), 3);
        Words.method(x, 4, 2, "BLOCK 0 RETURN NUM 6");
        Words.method(x, 4, 1, "CALL CALL BLOCK 0 BLOCK 0 RETURN NUM 7");
        T.is("the BLOCK around ended, the HOME at work", x.send(1, 0, 0, 0), SendBench.OK);
        T.is("the BLOCK around ended, the HOME at work", x.result(), 7);
        Words.method(x, 4, 4, "IF ARG 0 THEN STORE 1 BLOCK 0 RETURN NUM 8 SEND 4 SELF NUM 0 CALL GLOBAL 1");
        T.is("another ACTIVATION of the same BODY", x.send(4, 0, 1, 0), SendBench.OK);
        T.is("another ACTIVATION of the same BODY", x.result(), 8);
        T.is("of a run before", x.send(4, 0, 0, 0), SendBench.DEAD);
        Words.method(x, 4, 5, "THEN STORE 1 BLOCK 0 RETURN NUM 8 IF ARG 0 RETURN NUM 9 NIL");
        T.is("ended by RETURN", x.send(5, 0, 1, 0), SendBench.OK);
        T.is("ended by RETURN", x.send(4, 0, 0, 0), SendBench.DEAD);
        SendBench y = Benches.bench("ENSURE THEN STORE 1 BLOCK 0 RETURN NUM 1 SEND 1 SELF SAY CALL GLOBAL 2");
        Words.method(y, 4, 1, "THEN STORE 2 BLOCK 0 RETURN NUM 3 CALL GLOBAL 1");
        T.is("ended before the second one of an ENSURE", y.send(0, 0, 0, 0), SendBench.DEAD);
        Words.method(y, 4, 1, "THEN STORE 2 BLOCK 0 NUM 3 CALL GLOBAL 1");
        T.is("ended, but without RETURN", y.send(0, 0, 0, 0), SendBench.OK);
        B.says(y, "ended, but without RETURN", 3);
        T.is("ended, but without RETURN", y.result(), 1);
    }

    private static void ensures() {
        T.sentence("ENSURE: the first E, then the second; worth the first");
        SendBench x = run("ENSURE SAY NUM 1 SAY NUM 2", SendBench.OK);
        B.says(x, "ENSURE", 1, 2);
        T.is("worth", x.result(), 1);
        B.gives("THEN SET 0 NUM 3 ENSURE TEMP 0 SET 0 NUM 4", 3);
        T.sentence("if a RETURN comes while first ones are being worked out, in the HOME that ends");
        x = run("ENSURE RETURN SAY NUM 1 SAY NUM 2", SendBench.OK);
        B.says(x, "in the first one", 1, 2);
        T.is("worth", x.result(), 1);
        x = run("ENSURE NUM 1 RETURN SAY NUM 2", SendBench.OK);
        B.says(x, "in the second one", 2);
        T.is("worth", x.result(), 2);
        x = run("THEN ENSURE NUM 1 SAY NUM 2 RETURN SAY NUM 3", SendBench.OK);
        B.says(x, "behind it", 2, 3);
        x = run("RETURN ENSURE SAY NUM 1 SAY NUM 2", SendBench.OK);
        B.says(x, "around it", 1, 2);
        T.sentence("or in ACTIVATIONS that end with it");
        x = Benches.bench("SEND 4 SELF BLOCK 0 ENSURE RETURN NUM 1 SAY NUM 2");
        Words.method(x, 4, 4, "ENSURE CALL ARG 0 SAY NUM 3");
        x.send(0, 0, 0, 0);
        B.says(x, "in a BLOCK and in a BODY", 2, 3);
        T.is("worth", x.result(), 1);
        Words.method(x, 4, 1, "RETURN SAY NUM 5");
        Words.method(x, 4, 0, "THEN ENSURE SEND 1 SELF SAY NUM 6 SAY NUM 7");
        x.send(0, 0, 0, 0);
        B.says(x, "not of who called the HOME, before it goes on", 5, 6, 7);
        T.is("worth", x.result(), 7);
        Words.method(x, 4, 0, "ENSURE ADD NUM 10 SEND 1 SELF SAY NUM 6");
        x.send(0, 0, 0, 0);
        T.is("the first one goes on", x.result(), 15);
    }

    private static void secondOnes() {
        T.sentence("for the latest of these ENSURES, what began after it ends; then for the next one, and so on");
        SendBench x = run("ENSURE ENSURE ENSURE RETURN NUM 1 SAY NUM 2 SAY NUM 3 SAY NUM 4", SendBench.OK);
        B.says(x, "three", 2, 3, 4);
        T.is("worth", x.result(), 1);
        Words.method(x, 4, 4, "IF ARG 0 ENSURE SEND 4 SELF SUB ARG 0 NUM 1 SAY ARG 0 CALL GLOBAL 1");
        Words.method(x, 4, 1, "THEN STORE 1 BLOCK 0 RETURN NUM 5 THEN SEND 4 SELF NUM 3 SAY NUM 9");
        x.send(1, 0, 0, 0);
        B.says(x, "one in each ACTIVATION", 1, 2, 3);
        T.is("worth", x.result(), 5);
        Words.method(x, 4, 5, "IF ARG 0 SEND 5 SELF SUB ARG 0 NUM 1 NIL");
        Words.method(x, 4, 6, "IF ARG 0 SEND 6 SELF SUB ARG 0 NUM 1 CALL GLOBAL 1");
        Words.method(x, 4, 1, "THEN STORE 1 BLOCK 0 RETURN NUM 5 ENSURE SEND 6 SELF NUM 9 SEND 5 SELF NUM 10");
        T.is("what began after it is not at work", x.send(1, 0, 0, 0), SendBench.OK);
        T.is("what began after it is not at work", x.taken(1), 12);
        T.is("what began after it is not at work", x.taken(0), 23);
        Words.method(x, 4, 1, "THEN STORE 1 BLOCK 0 RETURN NUM 5 ENSURE SEND 6 SELF NUM 9 SEND 5 SELF NUM 11");
        T.is("the HOME is still at work", x.send(1, 0, 0, 0), SendBench.DEEP);
        T.sentence("its second E is worked out where it stands");
        for (String first : new String[] {"ADD RETURN NUM 1 SAY NUM 8", "THEN CALL BLOCK 0 RETURN NUM 1 SAY NUM 8",
            "IF RETURN NUM 1 SAY NUM 8 SAY NUM 8", "IF NUM 1 RETURN NUM 1 SAY NUM 8", "WHILE RETURN NUM 1 SAY NUM 8"}) {
            SendBench z = run("THEN ENSURE " + first + " SAY NUM 2 SAY NUM 9", SendBench.OK);
            B.says(z, "from wherever in the first one: " + first, 2);
            T.is("worth", z.result(), 1);
        }
        SendBench y = Benches.bench("THEN SET 0 NUM 1 SEND 4 SELF BLOCK 0 RETURN NUM 2");
        Words.method(y, 4, 4, "THEN SET 0 NUM 7 GIVE BLOCK 1 ENSURE CALL ARG 0 SAY ADD TEMP 0 PARAM 0 NUM 30");
        y.send(0, 0, 0, 0);
        B.says(y, "TEMP of its HOME and PARAM of its BLOCK", 37);
        T.is("worth", y.result(), 2);
    }

    private static void returnsInSecondOnes() {
        T.sentence("A RETURN that comes in one of those second ones, and whose HOME did not begin in it, is the only one that counts");
        SendBench x = run("THEN ENSURE RETURN NUM 1 RETURN NUM 2 SAY NUM 3", SendBench.OK);
        T.is("of the same HOME", x.result(), 2);
        B.says(x, "of the same HOME");
        Words.method(x, 4, 4, "ADD NUM 100 ENSURE CALL ARG 0 RETURN NUM 5");
        Words.method(x, 4, 1, "THEN SAY SEND 4 SELF BLOCK 0 RETURN NUM 1 NUM 6");
        x.send(1, 0, 0, 0);
        T.is("of a HOME that began later", x.result(), 6);
        B.says(x, "of a HOME that began later", 5);
        Words.method(x, 4, 5, "ENSURE ENSURE CALL ARG 0 CALL GLOBAL 1 SAY NUM 8");
        Words.method(x, 4, 6, "SEND 5 SELF BLOCK 0 RETURN NUM 1");
        Words.method(x, 4, 1, "THEN STORE 1 BLOCK 0 RETURN NUM 9 THEN SEND 6 SELF NIL SAY NUM 3");
        x.send(1, 0, 0, 0);
        T.is("of a HOME that began before", x.result(), 9);
        B.says(x, "of a HOME that began before: the other ENSURES once", 8);
        T.sentence("A RETURN in a second one whose HOME began in it ends that HOME alone");
        Words.method(x, 4, 7, "THEN RETURN SAY ARG 0 SAY NUM 1");
        Words.method(x, 4, 1, "THEN ENSURE RETURN NUM 2 SAY ADD NUM 10 SEND 7 SELF NUM 3 SAY NUM 4");
        x.send(1, 0, 0, 0);
        T.is("the first RETURN goes on", x.result(), 2);
        B.says(x, "the second one goes on", 3, 13);
    }
}
