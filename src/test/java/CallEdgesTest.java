import java.util.function.Consumer;

/** The boundary cases of the calls, promise by promise and sentence by sentence, and what a refused call leaves as it was. */
public final class CallEdgesTest {
    private static final int MIN = Integer.MIN_VALUE;
    private static final int MAX = Integer.MAX_VALUE;
    private static final long NIL = Benches.NIL;
    private static final long NOTHING = Benches.NOTHING;
    private static final int[] NO_GLOBALS = {-1, 4, 5, 256, -4, MIN, MAX};
    private static final int[] NO_SELECTORS = {-1, 12, 13, 16, 256, -12, MIN, MAX};
    private static final Checks T = new Checks("call edges");
    private static final Benches B = new Benches(T);

    public static void main(String[] args) {
        calls512();
        shown();
        newObject();
        clsParents();
        clsFields();
        clsNoRoom();
        tokenNoRoom();
        wipe();
        bodyNoRoom();
        bodyShape();
        bindNoneSuch();
        bindArgs();
        bindNone();
        global();
        createBad();
        createNoRoom();
        sendBad();
        sendArguments();
        result();
        read();
        field();
        finds();
        reachable();
        says();
        said();
        taken();
        T.end();
    }

    private static void fullClasses(SendBench x) {
        Benches.rich(x);
        for (int c = 6; c < 10; c++) x.cls(0, 0);
    }

    private static void fullDraft(SendBench x) {
        Benches.rich(x);
        x.wipe();
        Words.draft(x, "ADD NUM 1 ".repeat(15) + "CLASS NIL");
    }

    private static void fullBodies(SendBench x) {
        Benches.rich(x);
        x.wipe();
        for (int b = 2; b < 12; b++) Words.body(x, "NUM 5");
        Words.draft(x, "ADD NUM 1");
    }

    /** GLOBAL 3 is a list of BLOCKS, GLOBALS 0 and 1 are OBJECTS: 24 in all. */
    private static void fullRoom(SendBench x) {
        Benches.rich(x);
        x.wipe();
        Words.method(x, 0, 1, "THEN SET 0 GLOBAL 3 STORE 3 BLOCK 0 TEMP 0");
        for (int n = 3; n < 24; n++) x.send(1, 1, 0, 0);
        x.send(4, 1, 50, 0);
        Words.draft(x, "ADD NUM 1");
    }

    private static void calls512() {
        T.sentence("An object is used for at most 512 calls after it has been made");
        SendBench x = new SendBench();
        for (int n = 0; n < 511; n++) T.is("create", x.create(n % 4, 0), n);
        T.is("the 512th call", x.read(510 % 4), Benches.object(510));
        SendBench y = new SendBench();
        y.cls(0, 0);
        y.create(0, 4);
        Words.method(y, 4, 4, "SAY ADD ARG 0 NUM 1");
        for (int n = 9; n <= 511; n++) T.is("call " + n, y.send(4, 0, n, 0), SendBench.OK);
        T.is("the 512th call", y.result(), 512);
        // What these answer is free, but none of them may throw.
        for (int n = 0; n < 600; n++) {
            y.token(1, 0);
            y.body();
            y.send(4, 0, n, 0);
            y.create(1, 4);
        }
    }

    private static void shown() {
        T.sentence("NIL = 10000000000L: What NIL is shown as; an INT as itself");
        SendBench x = new SendBench();
        T.is("NIL", x.read(0), 10000000000L);
        for (int v : new int[] {MIN, -1, 0, 1, MAX}) {
            x.global(0, v);
            T.is("INT", x.read(0), v);
        }
        T.sentence("an OBJECT as twice, a BLOCK as three times this and its NUMBER; where there is nothing, as the negative");
        x.create(0, 0);
        T.is("OBJECT 0", x.read(0), 20000000000L);
        Words.method(x, 0, 0, "STORE 1 BLOCK 0 NIL");
        x.send(0, 0, 0, 0);
        T.is("BLOCK 1", x.read(1), 30000000001L);
        T.is("nothing", x.read(4), -10000000000L);
        T.sentence("OBJECTS and BLOCKS have NUMBERS, 0, 1, .. as they are made, together, for good");
        SendBench y = Benches.bench("THEN SAY NEW 4 THEN SAY BLOCK 0 NIL THEN SAY BLOCK 1 NIL SAY NEW 4");
        for (int n = 1; n < 100; n += 4) {
            y.send(0, 0, 0, 0);
            B.says(y, "NUMBERS", Benches.object(n), Benches.block(n + 1), Benches.block(n + 2), Benches.object(n + 3));
        }
        T.is("the next", y.create(0, 0), 101);
    }

    private static void newObject() {
        T.sentence("The four classes, no BODIES, an empty draft");
        SendBench x = new SendBench();
        T.is("classes", x.taken(3), 4);
        T.is("BODIES", x.taken(4), 0);
        T.is("draft", x.wipe(), 0);
        T.is("place", x.place(), -1);
        for (int what = 0; what < 3; what++) T.is("taken", x.taken(what), 0);
        for (int c = 0; c < 10; c++) {
            T.is("bind of class " + c, x.bind(c, 0, -1), c < 4);
            for (int s = 0; s < 12; s++) T.is("finds " + c + " " + s, x.finds(c, s), -1);
        }
        T.is("bind of BODY 0", x.bind(0, 0, 0), false);
        T.is("the first class", x.cls(0, 0), 4);
        T.is("the first BODY", Words.body(x, "NIL"), 0);
        T.is("the first NUMBER", x.create(0, 0), 0);
        T.sentence("GLOBALS 0..3 are VALUES, NIL at first");
        SendBench y = new SendBench();
        for (int k = 0; k < 4; k++) T.is("GLOBAL " + k, y.read(k), NIL);
        T.is("GLOBAL 4", y.read(4), NOTHING);
    }

    private static void refused(String call, java.util.function.ToLongFunction<SendBench> asked, long due) {
        B.unchanged(call, Benches::rich, asked, due);
    }

    private static void clsParents() {
        T.sentence("cls: BAD if there is no such PARENT (their PARENT is 0 or another made one)");
        for (int parent : new int[] {-1, 1, 2, 3, 6, 7, 9, 10, 256, MIN, MAX}) {
            refused("cls(" + parent + ", 0)", x -> x.cls(parent, 0), SendBench.BAD);
        }
        SendBench x = new SendBench();
        for (int c = 4; c < 10; c++) {
            if (c > 4) T.is("itself", x.cls(c, 0), SendBench.BAD);
            T.is("cls", x.cls(c == 4 ? 0 : c - 1, 0), c);
        }
    }

    private static void clsFields() {
        T.sentence("cls: BAD if fields is below 0, or there would be more than 4");
        for (int fields : new int[] {-1, -2, MIN, 5, 6, 256, MAX}) {
            refused("cls(0, " + fields + ")", x -> x.cls(0, fields), SendBench.BAD);
        }
        for (int fields : new int[] {-1, -2, MIN, 3, 4, MAX - 2, MAX - 1, MAX}) {
            refused("cls(4, " + fields + ")", x -> x.cls(4, fields), SendBench.BAD);
        }
        for (int of = 0; of <= 4; of++) {
            for (int own = -1; own <= 5; own++) {
                SendBench x = new SendBench();
                x.cls(0, of);
                boolean fits = own >= 0 && of + own <= 4;
                T.is("cls with " + of + " and " + own, x.cls(4, own), fits ? 5 : SendBench.BAD);
                if (!fits) continue;
                x.create(0, 5);
                for (int j = -1; j < 6; j++) T.is("FIELD " + j, x.field(0, j), j >= 0 && j < of + own ? NIL : NOTHING);
            }
        }
    }

    private static void clsNoRoom() {
        T.sentence("cls: NOROOM with 10 classes");
        SendBench x = new SendBench();
        for (int c = 4; c < 10; c++) T.is("cls", x.cls(0, 0), c);
        T.is("cls with 10", x.cls(0, 0), SendBench.NOROOM);
        B.unchanged("cls(0, 0)", CallEdgesTest::fullClasses, y -> y.cls(0, 0), SendBench.NOROOM);
        B.unchanged("cls(9, 4)", CallEdgesTest::fullClasses, y -> y.cls(9, 4), SendBench.NOROOM);
        T.sentence("cls: BAD is tested before NOROOM");
        for (int parent : new int[] {-1, 1, 3, 10, MAX}) {
            B.unchanged("cls(" + parent + ", 0)", CallEdgesTest::fullClasses, y -> y.cls(parent, 0), SendBench.BAD);
        }
        for (int fields : new int[] {-1, 5}) {
            B.unchanged("cls(0, " + fields + ")", CallEdgesTest::fullClasses, y -> y.cls(0, fields), SendBench.BAD);
        }
        B.unchanged("cls(5, 2)", CallEdgesTest::fullClasses, y -> y.cls(5, 2), SendBench.BAD);
    }

    private static void tokenNoRoom() {
        T.sentence("token: how many it has; NOROOM with 32");
        SendBench x = new SendBench();
        for (int n = 1; n <= 32; n++) T.is("token", x.token(1, 0), n);
        T.is("token with 32", x.token(1, 0), SendBench.NOROOM);
        T.is("wipe", x.wipe(), 32);
        T.is("token after wipe", x.token(1, 0), 1);
        B.unchanged("token(0, 3)", CallEdgesTest::fullDraft, y -> y.token(0, 3), SendBench.NOROOM);
        T.sentence("token: BAD is tested before NOROOM");
        int[][] wrong = {{-1, 0}, {30, 0}, {3, 2}, {13, -1}, {25, 10}, {28, 2560}, {28, 12}};
        for (int[] token : wrong) {
            String call = "token(" + token[0] + ", " + token[1] + ")";
            B.unchanged(call, CallEdgesTest::fullDraft, y -> y.token(token[0], token[1]), SendBench.BAD);
        }
        T.sentence("token: how many it has, also when there are 12 BODIES");
        SendBench y = new SendBench();
        fullBodies(y);
        for (int n = 3; n <= 32; n++) T.is("token", y.token(1, 0), n);
        T.is("token with 32", y.token(1, 0), SendBench.NOROOM);
        y.bind(4, 1, 11);
        T.is("the last BODY stays", y.send(1, 0, 0, 0), SendBench.OK);
        T.is("the last BODY stays", y.result(), 5);
    }

    private static void wipe() {
        T.sentence("wipe: The draft is empty: how many it had");
        for (int n : new int[] {0, 1, 2, 31, 32, 33}) {
            SendBench x = new SendBench();
            for (int i = 0; i < n; i++) x.token(16, 0);
            T.is("wipe of " + n, x.wipe(), n > 32 ? 32 : n);
            T.is("wipe again", x.wipe(), 0);
            T.is("body of none", x.body(), SendBench.SHAPE);
            T.is("place of none", x.place(), 0);
            T.is("token", x.token(1, 0), 1);
            T.is("body", x.body(), 0);
            T.is("after body", x.wipe(), 0);
        }
    }

    private static void bodyNoRoom() {
        T.sentence("body: its number; NOROOM (the draft stays) with 12");
        SendBench x = new SendBench();
        for (int b = 0; b < 12; b++) {
            T.is("body", Words.body(x, "NUM " + b), b);
            T.is("BODIES", x.taken(4), b + 1);
            x.bind(2, b, b);
        }
        T.is("body with 12", Words.body(x, "NUM 12"), SendBench.NOROOM);
        T.is("body again", x.body(), SendBench.NOROOM);
        T.is("the draft", x.wipe(), 1);
        T.sentence("BODIES 0..11 are kept for good");
        for (int b = 0; b < 12; b++) {
            x.send(b, 0, 0, 0);
            T.is("BODY " + b, x.result(), b);
        }
        T.sentence("body: NOROOM is tested before SHAPE");
        B.unchanged("body()", CallEdgesTest::fullBodies, SendBench::body, SendBench.NOROOM);
        Consumer<SendBench> emptyDraft = y -> {
            fullBodies(y);
            y.wipe();
        };
        B.unchanged("body() of none", emptyDraft, SendBench::body, SendBench.NOROOM);
    }

    private static void bodyShape() {
        T.sentence("body: the draft is empty afterwards also with SHAPE");
        for (String draft : new String[] {"", "ADD", "ADD NUM 1", "NIL NIL", "PARAM 0", "NEW 1", "THEN ".repeat(32)}) {
            SendBench x = new SendBench();
            T.is("body of " + draft, Words.body(x, draft), SendBench.SHAPE);
            T.is("draft after " + draft, x.wipe(), 0);
            T.is("BODIES after " + draft, x.taken(4), 0);
            T.is("no number is used up", Words.body(x, "NIL"), 0);
        }
        T.sentence("body: The draft, which is empty then, becomes the next BODY");
        SendBench x = new SendBench();
        T.is("body", Words.body(x, "NUM 3"), 0);
        T.is("draft", x.wipe(), 0);
        T.is("the next", Words.body(x, "NUM 4"), 1);
        x.bind(2, 0, 0);
        Words.draft(x, "ADD NUM 9");
        x.send(0, 0, 0, 0);
        T.is("a later draft changes nothing", x.result(), 3);
    }

    private static void bindNoneSuch() {
        T.sentence("bind: False, and nothing changes, if there is none such");
        for (int c : new int[] {-1, 6, 9, 10, 256, MIN, MAX}) {
            for (int b : new int[] {-1, 0}) refused("bind(" + c + ", 4, " + b + ")", x -> x.bind(c, 4, b) ? 1 : 0, 0);
        }
        for (int s : NO_SELECTORS) {
            for (int b : new int[] {-1, 1}) refused("bind(4, " + s + ", " + b + ")", x -> x.bind(4, s, b) ? 1 : 0, 0);
        }
        for (int b : new int[] {-2, 2, 3, 11, 12, MIN, MAX}) {
            refused("bind(4, 4, " + b + ")", x -> x.bind(4, 4, b) ? 1 : 0, 0);
            refused("bind(0, 11, " + b + ")", x -> x.bind(0, 11, b) ? 1 : 0, 0);
        }
        for (int c = 0; c < 6; c++) {
            for (int s = 0; s < 12; s++) {
                SendBench x = new SendBench();
                Benches.rich(x);
                T.is("bind(" + c + ", " + s + ", 1)", x.bind(c, s, 1), true);
                T.is("finds", x.finds(c, s), c);
            }
        }
        SendBench x = new SendBench();
        for (int b = 0; b < 12; b++) {
            T.is("not yet there", x.bind(0, 0, b), false);
            Words.body(x, "NIL");
            T.is("there", x.bind(0, 0, b), true);
        }
        T.is("12", x.bind(0, 0, 12), false);
    }

    private static void bindArgs() {
        T.sentence("bind: False, and nothing changes, if b uses an ARG from s / 4 on");
        String[] bodies = {"NIL", "ARG 0", "ARG 1", "BLOCK 0 SAY ARG 0", "THEN ARG 0 ARG 1", "IF NIL NIL ARG 1", "TEMP 1"};
        int[] needed = {0, 1, 2, 1, 2, 2, 0};
        for (int b = 0; b < bodies.length; b++) {
            for (int s = 0; s < 12; s++) {
                SendBench x = new SendBench();
                for (String body : bodies) Words.body(x, body);
                Words.body(x, "SAY SAY SAY NIL");
                x.bind(0, s, 0);
                boolean fits = needed[b] <= s / 4;
                T.is("bind of " + bodies[b] + " for " + s, x.bind(2, s, b), fits);
                T.is("finds", x.finds(2, s), fits ? 2 : 0);
                x.bind(2, s, 7);
                T.is("bind of " + bodies[b] + " for " + s + " again", x.bind(2, s, b), fits);
                T.is("finds again", x.finds(2, s), 2);
                x.send(s, 0, 0, 0);
                T.is("the one before stays", x.says(), fits ? 0 : 3);
            }
        }
        for (String before : new String[] {"NIL ARG 1", "THEN ARG 0"}) {
            SendBench x = new SendBench();
            T.is("body of " + before, Words.body(x, before), SendBench.SHAPE);
            T.is("body", Words.body(x, "NIL"), 0);
            T.is("body of 32", Words.body(x, "SAY ".repeat(31) + "NIL"), 1);
            T.is("body behind it", Words.body(x, "ARG 1"), 2);
            T.is("a draft before does not count", x.bind(0, 0, 0), true);
            T.is("the BODY behind does not count", x.bind(0, 0, 1), true);
            T.is("its own does", x.bind(0, 7, 2), false);
        }
        for (int s = 0; s < 4; s++) {
            int selector = s;
            refused("bind(4, " + s + ", 0) of a BODY with ARG 0", x -> x.bind(4, selector, 0) ? 1 : 0, 0);
        }
    }

    private static void bindNone() {
        T.sentence("bind: Class c has BODY b for SELECTOR s from now on, or none (-1)");
        for (int c = 0; c < 10; c++) {
            for (int s = 0; s < 12; s += 11) {
                SendBench x = new SendBench();
                for (int n = 4; n < 10; n++) x.cls(0, 0);
                Words.body(x, "NIL");
                T.is("none where there is none", x.bind(c, s, -1), true);
                T.is("finds", x.finds(c, s), -1);
                T.is("one", x.bind(c, s, 0), true);
                T.is("finds", x.finds(c, s), c);
                for (int other = 0; other < 12; other++) T.is("others", x.finds(c, other), other == s ? c : -1);
                T.is("none", x.bind(c, s, -1), true);
                T.is("finds", x.finds(c, s), -1);
            }
        }
    }

    private static void global() {
        T.sentence("global: GLOBAL k becomes the INT v. False if there is none");
        for (int k : NO_GLOBALS) refused("global(" + k + ", 5)", x -> x.global(k, 5) ? 1 : 0, 0);
        for (int k = 0; k < 4; k++) {
            for (int v : new int[] {MIN, -1, 0, MAX}) {
                SendBench x = new SendBench();
                T.is("global", x.global(k, v), true);
                for (int other = 0; other < 4; other++) T.is("read", x.read(other), other == k ? v : NIL);
            }
        }
    }

    private static void createBad() {
        T.sentence("create: BAD if there is no such GLOBAL, or class, or c is 1..3");
        for (int k : NO_GLOBALS) refused("create(" + k + ", 4)", x -> x.create(k, 4), SendBench.BAD);
        for (int c : new int[] {-1, 1, 2, 3, 6, 9, 10, 256, MIN, MAX}) {
            refused("create(2, " + c + ")", x -> x.create(2, c), SendBench.BAD);
        }
        for (int c : new int[] {0, 4, 5}) {
            SendBench x = new SendBench();
            Benches.rich(x);
            T.is("create(3, " + c + ")", x.create(3, c), 3);
            T.is("read", x.read(3), Benches.object(3));
        }
        SendBench x = new SendBench();
        for (int c = 4; c < 10; c++) {
            T.is("not yet there", x.create(0, c), SendBench.BAD);
            x.cls(0, 0);
            T.is("there", x.create(0, c), c - 4);
        }
    }

    private static void createNoRoom() {
        T.sentence("create: NOROOM where it would be FULL; the GLOBAL stays as it is");
        for (int k = 0; k < 4; k++) {
            int global = k;
            B.unchanged("create(" + k + ", 4)", CallEdgesTest::fullRoom, x -> x.create(global, 4), SendBench.NOROOM);
        }
        SendBench x = B.filled(23);
        T.is("with 23", x.create(1, 4), 23);
        T.is("reachable", x.reachable(), 24);
        T.is("with 24", x.create(2, 4), SendBench.NOROOM);
        T.is("GLOBAL 2", x.read(2), NIL);
        T.is("made", x.taken(2), 24);
        T.sentence("create: what GLOBAL k was before counts");
        T.is("with 24, one of them there", x.create(1, 4), SendBench.NOROOM);
        T.is("GLOBAL 1", x.read(1), Benches.object(23));
        x.global(1, 0);
        T.is("with 23", x.create(1, 4), 24);
        T.is("with 24, 23 of them there", x.create(3, 4), SendBench.NOROOM);
        x.global(3, 0);
        T.is("with 2", x.create(3, 4), 25);
        T.sentence("create: BAD is tested before NOROOM");
        int[][] wrong = {{-1, 4}, {4, 4}, {2, 1}, {2, 3}, {2, 6}, {2, -1}, {2, 10}};
        for (int[] call : wrong) {
            B.unchanged("create(" + call[0] + ", " + call[1] + ")", CallEdgesTest::fullRoom, y -> y.create(call[0], call[1]), SendBench.BAD);
        }
    }

    private static void sendBad() {
        T.sentence("send: BAD if there is no such GLOBAL or SELECTOR; nothing changes; what is told of the latest run stays");
        for (int k : NO_GLOBALS) refused("send(4, " + k + ", 1, 2)", x -> x.send(4, k, 1, 2), SendBench.BAD);
        for (int s : NO_SELECTORS) refused("send(" + s + ", 0, 1, 2)", x -> x.send(s, 0, 1, 2), SendBench.BAD);
        refused("send(12, 4, 1, 2)", x -> x.send(12, 4, 1, 2), SendBench.BAD);
        Consumer<SendBench> none = x -> x.cls(0, 0);
        B.unchanged("send(0, 4, 0, 0) before any run", none, x -> x.send(0, 4, 0, 0), SendBench.BAD);
        B.unchanged("send(12, 0, 0, 0) before any run", none, x -> x.send(12, 0, 0, 0), SendBench.BAD);
        for (int s = 0; s < 12; s++) {
            for (int k = 0; k < 4; k++) {
                SendBench x = new SendBench();
                Words.method(x, 2, s, "SELF");
                T.is("send(" + s + ", " + k + ")", x.send(s, k, 0, 0), SendBench.OK);
                T.is("result", x.result(), NIL);
            }
        }
    }

    private static void sendArguments() {
        T.sentence("send: with the INTS a, b, as far as it needs them");
        for (int s = 4; s < 12; s++) {
            for (int v : new int[] {MIN, -1, 0, 1, MAX}) {
                SendBench x = new SendBench();
                Words.method(x, 2, s, "ARG 0");
                x.send(s, 0, v, 77);
                T.is("a of " + s, x.result(), v);
                if (s < 8) continue;
                Words.method(x, 2, s, "ARG 1");
                x.send(s, 0, 77, v);
                T.is("b of " + s, x.result(), v);
            }
        }
        for (int s = 0; s < 11; s++) {
            SendBench x = new SendBench();
            Words.method(x, 2, 11, "ARG 1");
            x.send(s, 0, 77, 78);
            T.is("none FOUND for " + s, x.result(), s < 4 ? NIL : 77);
        }
    }

    private static void result() {
        T.sentence("result: What the latest run gave; nothing if it was not OK, or there was none");
        SendBench x = new SendBench();
        T.is("none", x.result(), NOTHING);
        x.send(12, 0, 0, 0);
        T.is("BAD is none", x.result(), NOTHING);
        x.send(0, 0, 0, 0);
        T.is("STRANGE", x.result(), NOTHING);
        Words.method(x, 2, 0, "NIL");
        Words.method(x, 2, 4, "ARG 0");
        Words.method(x, 2, 1, "ADD NUM 5 NIL");
        Words.method(x, 2, 2, "WHILE NUM 1 NUM 2");
        Words.method(x, 2, 3, "SEND 3 SELF");
        x.send(0, 0, 0, 0);
        T.is("NIL is something", x.result(), NIL);
        for (int s = 1; s < 4; s++) {
            x.send(4, 0, s, 0);
            T.is("OK", x.result(), s);
            T.is("not OK", x.send(s, 0, 0, 0) > 0, true);
            T.is("not OK", x.result(), NOTHING);
        }
        for (int v : new int[] {MIN, -1, 0, MAX}) {
            x.send(4, 0, v, 0);
            T.is("INT", x.result(), v);
            T.is("asked again", x.result(), v);
        }
    }

    private static void read() {
        T.sentence("read: GLOBAL k; nothing if there is none");
        SendBench x = new SendBench();
        for (int k = 0; k < 4; k++) x.global(k, 10 + k);
        for (int k = 0; k < 4; k++) T.is("read " + k, x.read(k), 10 + k);
        for (int k : NO_GLOBALS) T.is("read " + k, x.read(k), NOTHING);
    }

    private static void field() {
        T.sentence("field: FIELD j of the OBJECT that GLOBAL k is; nothing if there is none");
        for (int fields = 0; fields <= 4; fields++) {
            for (int k = 0; k < 4; k++) {
                SendBench x = new SendBench();
                x.cls(0, fields);
                x.create(k, 4);
                for (int j : new int[] {MIN, -4, -1, 0, 1, 2, 3, 4, 5, 16, MAX}) {
                    T.is("field(" + k + ", " + j + ") of " + fields, x.field(k, j), j >= 0 && j < fields ? NIL : NOTHING);
                }
            }
        }
        SendBench x = new SendBench();
        x.cls(0, 4);
        x.create(0, 4);
        x.create(1, 0);
        x.global(2, 0);
        Words.method(x, 4, 0, "THEN PUT 0 NUM 6 STORE 3 BLOCK 0 NIL");
        x.send(0, 0, 0, 0);
        T.is("of an OBJECT", x.field(0, 0), 6);
        T.is("of an OBJECT of class 0", x.field(1, 0), NOTHING);
        T.is("of an INT", x.field(2, 0), NOTHING);
        T.is("of a BLOCK", x.field(3, 0), NOTHING);
        for (int k : NO_GLOBALS) T.is("of GLOBAL " + k, x.field(k, 0), NOTHING);
        T.is("of NIL", new SendBench().field(0, 0), NOTHING);
    }

    private static void finds() {
        T.sentence("finds: The class in which the BODY for c and s is FOUND; -1 if there is none");
        SendBench x = new SendBench();
        x.cls(0, 0);
        x.cls(4, 0);
        Words.body(x, "NIL");
        for (int s = 0; s < 12; s++) {
            T.is("none", x.finds(5, s), -1);
            x.bind(0, s, 0);
            for (int c = 0; c < 10; c++) T.is("finds(" + c + ", " + s + ")", x.finds(c, s), c < 6 ? 0 : -1);
        }
        for (int s : NO_SELECTORS) T.is("finds(0, " + s + ")", x.finds(0, s), -1);
        for (int c : new int[] {-1, 6, 10, 256, MIN, MAX}) T.is("finds(" + c + ", 0)", x.finds(c, 0), -1);
        x.bind(4, 11, 0);
        T.is("nearer", x.finds(5, 11), 4);
        T.is("SELECTOR 11 stands in for none here", new SendBench().finds(0, 0), -1);
        x.bind(0, 0, -1);
        T.is("SELECTOR 11 stands in for none here", x.finds(5, 0), -1);
    }

    private static void reachable() {
        T.sentence("reachable: How many OBJECTS and BLOCKS are REACHABLE");
        T.is("none", new SendBench().reachable(), 0);
        SendBench x = B.filled(24);
        T.is("asked again", x.reachable(), 24);
        x.global(0, 0);
        T.is("SELF of the BLOCKS", x.reachable(), 24);
        x.global(3, 0);
        T.is("none again", x.reachable(), 0);
    }

    private static void says() {
        T.sentence("says: How often the latest run said something");
        SendBench x = Benches.bench("NIL");
        Words.method(x, 4, 4, "THEN SET 0 ARG 0 WHILE TEMP 0 THEN SAY TEMP 0 SET 0 SUB TEMP 0 NUM 1");
        T.is("no run", x.says(), 0);
        for (int n : new int[] {0, 1, 19, 20, 21, 198}) {
            T.is("send", x.send(4, 0, n, 0), SendBench.OK);
            T.is("says", x.says(), n);
            x.send(-1, 0, 0, 0);
            T.is("after BAD", x.says(), n);
        }
        x.send(4, 0, 199, 0);
        T.is("of one that was ended", x.says(), 199);
        x.send(1, 0, 0, 0);
        T.is("after STRANGE", x.says(), 0);
    }

    private static void said() {
        T.sentence("said: The k-th (0 first) of the first 20 of them; nothing if there is none");
        SendBench x = Benches.bench("NIL");
        Words.method(x, 4, 4, "THEN SET 0 ARG 0 WHILE TEMP 0 THEN SAY TEMP 0 SET 0 SUB TEMP 0 NUM 1");
        T.is("no run", x.said(0), NOTHING);
        for (int n : new int[] {21, 20, 19, 1, 0}) {
            x.send(4, 0, n, 0);
            for (int k = 0; k < 23; k++) T.is("said " + k + " of " + n, x.said(k), k < n && k < 20 ? n - k : NOTHING);
            for (int k : new int[] {-1, -20, MIN, MAX}) T.is("said " + k, x.said(k), NOTHING);
        }
        T.sentence("said: as it was shown then");
        SendBench y = Benches.bench("THEN SAY NEW 4 THEN SAY BLOCK 0 NIL THEN SAY NIL SAY NUM " + MIN);
        y.send(0, 0, 0, 0);
        for (int n = 0; n < 60; n++) y.create(0, 0);
        B.says(y, "later", Benches.object(1), Benches.block(2), NIL, MIN);
    }

    private static void taken() {
        T.sentence("taken: -1 for others");
        SendBench x = new SendBench();
        Benches.rich(x);
        for (int what : new int[] {-1, -2, 5, 6, MIN, MAX}) T.is("taken " + what, x.taken(what), -1);
        for (int what = 0; what < 5; what++) T.is("taken " + what, x.taken(what) > 0, true);
        T.sentence("taken: What 0: how many STEPS the latest run took; 1: how many ACTIVATIONS were at work at most");
        SendBench y = Benches.bench("THEN CALL BLOCK 0 CALL BLOCK 0 NIL WHILE NIL NIL");
        y.send(0, 0, 0, 0);
        T.is("STEPS", y.taken(0), 4);
        T.is("at work", y.taken(1), 3);
        y.send(0, -1, 0, 0);
        T.is("STEPS after BAD", y.taken(0), 4);
        T.is("at work after BAD", y.taken(1), 3);
        y.send(1, 0, 0, 0);
        T.is("STEPS of STRANGE", y.taken(0), 0);
        T.is("at work in STRANGE", y.taken(1), 0);
        SendBench z = Benches.bench("THEN CALL BLOCK 0 CALL BLOCK 0 NIL CALL BLOCK 0 NIL");
        z.send(0, 0, 0, 0);
        T.is("STEPS, one after the other", z.taken(0), 4);
        T.is("at work at most, not at last", z.taken(1), 3);
        Words.method(z, 4, 0, "NIL");
        z.send(0, 0, 0, 0);
        T.is("at work, of the latest run", z.taken(1), 1);
        T.sentence("taken: 2: how many OBJECTS and BLOCKS were made ever");
        T.is("made", y.taken(2), 3);
        y.create(0, 0);
        T.is("made, one more", y.taken(2), 4);
        y.create(0, 1);
        y.create(4, 0);
        T.is("made, refused", y.taken(2), 4);
        T.sentence("taken: 3: how many classes there are; 4: how many BODIES");
        for (int n = 5; n < 13; n++) {
            T.is("classes", y.taken(3), n > 10 ? 10 : n);
            y.cls(0, 0);
            T.is("BODIES", y.taken(4), n - 4);
            Words.body(y, "NIL NIL");
            T.is("BODIES", y.taken(4), n - 4);
            Words.body(y, "NIL");
        }
    }
}
