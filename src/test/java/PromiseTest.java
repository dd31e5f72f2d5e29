/** Promise by promise: ordinary inputs, the edges that the document names, and wrong inputs. */
public final class PromiseTest {
    private static final long NIL = SendBench.NIL;
    private static final long NOTHING = -SendBench.NIL;
    private static final Checks T = new Checks("promises");
    private static final Benches B = new Benches(T);

    public static void main(String[] args) {
        newObject();
        cls();
        token();
        wipe();
        body();
        place();
        bind();
        global();
        create();
        send();
        result();
        readAndField();
        finds();
        reachable();
        saysAndSaid();
        taken();
        orderAndLimits();
        T.end();
    }

    private static void newObject() {
        SendBench x = new SendBench();
        for (int what = 0; what < 3; what++) T.is("1 taken " + what, x.taken(what), 0);
        T.is("1 classes", x.taken(3), 4);
        T.is("1 bodies", x.taken(4), 0);
        T.is("1 place", x.place(), -1);
        T.is("1 wipe", x.wipe(), 0);
        T.is("1 result", x.result(), NOTHING);
        T.is("1 says", x.says(), 0);
        T.is("1 reachable", x.reachable(), 0);
        for (int k = 0; k < 4; k++) T.is("1 read " + k, x.read(k), NIL);
        for (int c = 0; c < 4; c++) T.is("1 finds " + c, x.finds(c, 0), -1);
    }

    private static void cls() {
        SendBench x = new SendBench();
        for (int parent : new int[] {-1, 1, 2, 3, 4, 9, 10, Integer.MAX_VALUE, Integer.MIN_VALUE}) {
            T.is("2 cls of parent " + parent, x.cls(parent, 0), SendBench.BAD);
        }
        for (int fields : new int[] {-1, 5, Integer.MAX_VALUE, Integer.MIN_VALUE}) {
            T.is("2 cls with fields " + fields, x.cls(0, fields), SendBench.BAD);
        }
        T.is("2 classes", x.taken(3), 4);
        T.is("2 first", x.cls(0, 3), 4);
        T.is("2 too many with the parent's", x.cls(4, 2), SendBench.BAD);
        T.is("2 wrap", x.cls(4, Integer.MAX_VALUE), SendBench.BAD);
        T.is("2 four in all", x.cls(4, 1), 5);
        T.is("2 none more", x.cls(5, 1), SendBench.BAD);
        T.is("2 none of its own", x.cls(5, 0), 6);
        T.is("2 itself", x.cls(7, 0), SendBench.BAD);
        for (int c = 7; c < 10; c++) T.is("2 class " + c, x.cls(0, 4), c);
        T.is("2 no room", x.cls(0, 0), SendBench.NOROOM);
        T.is("2 classes", x.taken(3), 10);
        x.create(0, 6);
        T.is("2 inherited field", x.field(0, 3), NIL);
        T.is("2 no field", x.field(0, 4), NOTHING);
    }

    private static void token() {
        SendBench x = new SendBench();
        int[] limits = {0, 0, 0, 2, 3, 3, 4, 4, 4, 4, 12, 12, 2, 3, 0, 0, 0, 0, 0, 0, 0, 0, 0, 0, 0, 10, 0, 0, -1, 0};
        for (int kind = 0; kind < 30; kind++) {
            int limit = limits[kind];
            if (limit > 0) {
                T.is("3 kind " + kind + " least", x.token(kind, 0), 1);
                T.is("3 kind " + kind + " most", x.token(kind, limit - 1), 2);
                T.is("3 kind " + kind + " too much", x.token(kind, limit), SendBench.BAD);
                T.is("3 kind " + kind + " too little", x.token(kind, -1), SendBench.BAD);
                T.is("3 wipe", x.wipe(), 2);
            } else if (limit == 0) {
                T.is("3 kind " + kind + " any", x.token(kind, Integer.MIN_VALUE), 1);
                T.is("3 kind " + kind + " any", x.token(kind, Integer.MAX_VALUE), 2);
                T.is("3 wipe", x.wipe(), 2);
            }
        }
        T.is("3 kind -1", x.token(-1, 0), SendBench.BAD);
        T.is("3 kind 30", x.token(30, 0), SendBench.BAD);
        T.is("3 kind most", x.token(Integer.MAX_VALUE, 0), SendBench.BAD);
        T.is("3 BIND least", x.token(28, 0), 1);
        x.wipe();
        T.is("3 BIND most", x.token(28, 256 * 9 + 16 * 11 + 11), 1);
        T.is("3 BIND class 10", x.token(28, 2560), SendBench.BAD);
        T.is("3 BIND selector 12", x.token(28, 16 * 12), SendBench.BAD);
        T.is("3 BIND body 12", x.token(28, 12), SendBench.BAD);
        T.is("3 BIND below", x.token(28, -256), SendBench.BAD);
        T.is("3 BIND far", x.token(28, Integer.MAX_VALUE), SendBench.BAD);
        for (int n = 2; n <= 32; n++) T.is("3 token " + n, x.token(1, 0), n);
        T.is("3 no room", x.token(1, 0), SendBench.NOROOM);
        T.is("3 bad before no room", x.token(3, 2), SendBench.BAD);
        T.is("3 wipe", x.wipe(), 32);
    }

    private static void wipe() {
        SendBench x = new SendBench();
        Words.draft(x, "ADD NUM 1 NUM 2");
        T.is("4 had", x.wipe(), 3);
        T.is("4 empty", x.wipe(), 0);
        T.is("4 the draft is new", x.token(1, 0), 1);
        T.is("4 body of it", x.body(), 0);
        T.is("4 after body", x.wipe(), 0);
    }

    private static void body() {
        SendBench x = new SendBench();
        T.is("5 empty", x.body(), SendBench.SHAPE);
        T.is("5 ADD", Words.body(x, "ADD NUM 1"), SendBench.SHAPE);
        T.is("5 empty after SHAPE", x.wipe(), 0);
        for (int b = 0; b < 12; b++) T.is("5 body", Words.body(x, "NUM " + b), b);
        T.is("5 bodies", x.taken(4), 12);
        T.is("5 no room", Words.body(x, "NUM 1 NUM 2"), SendBench.NOROOM);
        T.is("5 place stays", x.place(), -1);
        T.is("5 the draft stays", x.wipe(), 2);
        T.is("5 no room before shape", x.body(), SendBench.NOROOM);
        SendBench y = Benches.bench("ADD NUM 40 NUM 2");
        Words.draft(y, "NUM 7 NUM 8 NUM 9");
        T.is("5 a draft leaves the bodies", y.send(0, 0, 0, 0), 0);
        T.is("5 a draft leaves the bodies", y.result(), 42);
        String longest = "ADD NUM 1 ".repeat(15) + "CLASS NIL";
        B.gives(longest, 17);
    }

    private static void wrongAt(SendBench x, String program, int due) {
        int before = x.taken(4);
        T.is("6 body of " + program, Words.body(x, program), due < 0 ? before : SendBench.SHAPE);
        T.is("6 place of " + program, x.place(), due);
    }

    private static void place() {
        SendBench x = new SendBench();
        x.cls(0, 0);
        wrongAt(x, "", 0);
        wrongAt(x, "THEN", 1);
        wrongAt(x, "THEN NIL", 2);
        wrongAt(x, "NIL NIL THEN", 1);
        wrongAt(x, "IF NIL NIL NIL NIL", 4);
        wrongAt(x, "SEND 3 NIL NIL", 2);
        wrongAt(x, "SEND 4 NIL", 2);
        wrongAt(x, "SEND 11 NIL NIL", 3);
        wrongAt(x, "SUPER 3 NIL", 1);
        wrongAt(x, "SUPER 8 NIL", 2);
        wrongAt(x, "PARAM 0", 0);
        wrongAt(x, "BLOCK 0 PARAM 0", 1);
        wrongAt(x, "BLOCK 1 PARAM 1", 1);
        wrongAt(x, "THEN BLOCK 1 NIL PARAM 0", 3);
        wrongAt(x, "BLOCK 1 BLOCK 0 PARAM 0", 2);
        wrongAt(x, "BLOCK 0 BLOCK 1 PARAM 1", 2);
        wrongAt(x, "BLOCK 0 THEN BLOCK 1 PARAM 0 PARAM 0", 4);
        wrongAt(x, "BLOCK 0 BLOCK 0 BLOCK 0 BLOCK 0 NIL", 3);
        wrongAt(x, "BLOCK 0 BLOCK 0 BLOCK 0 THEN NIL BLOCK 0 NIL", 5);
        wrongAt(x, "NEW 1", 0);
        wrongAt(x, "NEW 3", 0);
        wrongAt(x, "NEW 5", 0);
        wrongAt(x, "BIND 0 0 0", 0);
        wrongAt(x, "THEN ".repeat(32), 32);
        wrongAt(x, "THEN NIL ".repeat(16), 32);
        x.token(1, 0);
        x.wipe();
        T.is("6 stays", x.place(), 32);
        wrongAt(x, "BLOCK 1 BLOCK 0 BLOCK 1 ADD PARAM 0 PARAM 2", -1);
        wrongAt(x, "THEN BLOCK 0 BLOCK 0 BLOCK 0 NIL BLOCK 0 BLOCK 0 BLOCK 0 NIL", -1);
        wrongAt(x, "NEW 4", -1);
        wrongAt(x, "BLOCK 1 ARG 1", -1);
        wrongAt(x, "BIND 4 8 3", -1);
        wrongAt(x, "BIND 4 7 3", 0);
        wrongAt(x, "BIND 5 8 3", 0);
        wrongAt(x, "BIND 3 8 5", 0);
        wrongAt(x, "BIND 3 0 2", -1);
        wrongAt(x, "ARG 0", -1);
        wrongAt(x, "BIND 0 4 6", -1);
        wrongAt(x, "BIND 0 3 6", 0);
        for (int b = 8; b < 12; b++) Words.body(x, "NIL");
        T.is("6 no room", Words.body(x, "ADD"), SendBench.NOROOM);
        T.is("6 after no room", x.place(), -1);
    }

    private static void bind() {
        SendBench x = new SendBench();
        Words.body(x, "NUM 1");
        Words.body(x, "BLOCK 0 ARG 0");
        Words.body(x, "IF NIL ARG 1 NIL");
        for (int c : new int[] {-1, 4, 10}) T.is("7 class " + c, x.bind(c, 0, 0), false);
        for (int s : new int[] {-1, 12}) T.is("7 selector " + s, x.bind(0, s, 0), false);
        for (int b : new int[] {-2, 3, 12, Integer.MIN_VALUE}) T.is("7 body " + b, x.bind(0, 0, b), false);
        for (int s = 0; s < 12; s++) {
            T.is("7 no ARG, " + s, x.bind(0, s, 0), true);
            T.is("7 ARG 0, " + s, x.bind(1, s, 1), s >= 4);
            T.is("7 ARG 1, " + s, x.bind(2, s, 2), s >= 8);
            T.is("7 found for 1, " + s, x.finds(1, s), s >= 4 ? 1 : 0);
            T.is("7 found for 2, " + s, x.finds(2, s), s >= 8 ? 2 : 0);
        }
        x.bind(3, 8, 2);
        T.is("7 false", x.bind(3, 8, 3), false);
        T.is("7 nothing changed", x.finds(3, 8), 3);
        T.is("7 none", x.bind(3, 8, -1), true);
        T.is("7 none there", x.finds(3, 8), 0);
        T.is("7 none again", x.bind(3, 8, -1), true);
        T.is("7 none for no class", x.bind(4, 8, -1), false);
        T.is("7 send to NIL", x.send(0, 0, 0, 0), 0);
        T.is("7 result", x.result(), 1);
    }

    private static void global() {
        SendBench x = new SendBench();
        T.is("8 least", x.global(0, Integer.MIN_VALUE), true);
        T.is("8 most", x.global(3, Integer.MAX_VALUE), true);
        T.is("8 below", x.global(-1, 5), false);
        T.is("8 above", x.global(4, 5), false);
        T.is("8 read least", x.read(0), Integer.MIN_VALUE);
        T.is("8 read most", x.read(3), Integer.MAX_VALUE);
        T.is("8 read other", x.read(1), NIL);
    }

    private static void create() {
        SendBench x = new SendBench();
        x.cls(0, 1);
        for (int k : new int[] {-1, 4}) T.is("9 global " + k, x.create(k, 4), SendBench.BAD);
        for (int c : new int[] {-1, 1, 2, 3, 5, 10}) T.is("9 class " + c, x.create(0, c), SendBench.BAD);
        T.is("9 still NIL", x.read(0), NIL);
        T.is("9 of class 0", x.create(0, 0), 0);
        T.is("9 of class 4", x.create(3, 4), 1);
        T.is("9 read", x.read(3), Benches.object(1));
        T.is("9 numbers are for good", x.create(3, 4), 2);
        T.is("9 made", x.taken(2), 3);
        T.is("9 reachable", x.reachable(), 2);
        Words.method(x, 4, 0, "THEN SET 0 NEW 4 SEND 1 TEMP 0");
        Words.method(x, 4, 1, "THEN PUT 0 GLOBAL 1 STORE 1 SELF");
        for (int n = 0; n < 21; n++) x.send(0, 3, 0, 0);
        T.is("9 nearly full", x.reachable(), 23);
        T.is("9 the last", x.create(2, 0), 24);
        T.is("9 full", x.create(2, 0), SendBench.NOROOM);
        T.is("9 stays", x.read(2), Benches.object(24));
        T.is("9 bad before no room", x.create(2, 1), SendBench.BAD);
        T.is("9 not made", x.taken(2), 25);
        x.global(2, 0);
        T.is("9 room again", x.create(2, 0), 25);
    }

    private static void send() {
        SendBench x = Benches.bench("NUM 7");
        T.is("10 run", x.send(0, 0, 0, 0), 0);
        for (int s : new int[] {-1, 12}) T.is("10 selector " + s, x.send(s, 0, 0, 0), SendBench.BAD);
        for (int k : new int[] {-1, 4}) T.is("10 global " + k, x.send(0, k, 0, 0), SendBench.BAD);
        T.is("10 what is told stays", x.result(), 7);
        T.is("10 strange", x.send(1, 0, 0, 0), SendBench.STRANGE);
        T.is("10 strange took nothing", x.taken(0), 0);
        T.is("10 strange had none at work", x.taken(1), 0);
        Words.method(x, 0, 8, "SUB ARG 0 ARG 1");
        Words.method(x, 0, 5, "ARG 0");
        x.send(8, 0, 3, 5);
        T.is("10 two arguments", x.result(), -2);
        x.send(5, 2, 3, 5);
        T.is("10 one argument, to NIL", x.result(), 3);
        values();
        variables();
        messages();
        blocks();
        returns();
        ensures();
        limitsOfARun();
    }

    private static void values() {
        B.gives("NUM -2147483648", Integer.MIN_VALUE);
        B.gives("NIL", NIL);
        B.gives("SELF", Benches.object(0));
        B.gives("NEW 0", Benches.object(1));
        B.gives("BLOCK 0 NIL", Benches.block(1));
        B.gives("ADD NUM 2147483647 NUM 1", Integer.MIN_VALUE);
        B.gives("SUB NUM -2147483648 NUM 1", Integer.MAX_VALUE);
        B.gives("MUL NUM 65536 NUM 65536", 0);
        B.gives("MUL NUM 2147483647 NUM 3", 2147483645);
        B.gives("LESS NUM -1 NUM 0", 1);
        B.gives("LESS NUM 0 NUM 0", 0);
        B.gives("LESS NUM -2147483648 NUM 2147483647", 1);
        for (String kind : new String[] {"ADD", "SUB", "MUL", "LESS"}) {
            B.ends(kind + " NIL NUM 1", SendBench.KIND);
            B.ends(kind + " NUM 1 SELF", SendBench.KIND);
            B.ends(kind + " BLOCK 0 NIL NUM 1", SendBench.KIND);
        }
        B.gives("SAME NUM 5 ADD NUM 2 NUM 3", 1);
        B.gives("SAME NIL NIL", 1);
        B.gives("SAME NIL NUM 0", 0);
        B.gives("SAME SELF GLOBAL 0", 1);
        B.gives("SAME NEW 4 NEW 4", 0);
        B.gives("SAME BLOCK 0 NIL BLOCK 0 NIL", 0);
        B.gives("THEN SET 0 BLOCK 0 NIL SAME TEMP 0 TEMP 0", 1);
        B.gives("IF NIL NUM 1 NUM 2", 2);
        B.gives("IF NUM 0 NUM 1 NUM 2", 2);
        B.gives("IF NUM -1 NUM 1 NUM 2", 1);
        B.gives("IF SELF NUM 1 NUM 2", 1);
        B.gives("IF BLOCK 0 NIL NUM 1 NUM 2", 1);
        B.gives("ADD IF NUM 1 IF NUM 0 NUM 1 NUM 2 NUM 3 IF NUM 0 NUM 10 NUM 20", 22);
        B.gives("CLASS NUM 1", 1);
        B.gives("CLASS NIL", 2);
        B.gives("CLASS BLOCK 1 NIL", 3);
        B.gives("CLASS SELF", 4);
        B.gives("CLASS NEW 0", 0);
        B.gives("SAY NUM 3", 3);
        B.gives("WHILE NIL NUM 1", NIL);
    }

    private static void variables() {
        B.gives("TEMP 2", NIL);
        B.gives("ADD SET 0 NUM 3 ADD SET 0 NUM 4 TEMP 0", 11);
        B.gives("FIELD 1", NIL);
        B.gives("THEN PUT 1 NUM 9 FIELD 1", 9);
        B.gives("PUT 0 NUM 6", 6);
        B.ends("FIELD 2", SendBench.KIND);
        B.ends("PUT 2 NUM 1", SendBench.KIND);
        B.gives("THEN STORE 3 NUM 4 ADD GLOBAL 3 STORE 3 NUM 5", 9);
        SendBench x = Benches.bench("PUT 2 SAY NUM 1");
        T.is("PUT without such a field", x.send(0, 0, 0, 0), SendBench.KIND);
        B.says(x, "PUT works out first", 1);
        Words.method(x, 0, 4, "THEN SET 1 NUM 8 FIELD 0");
        x.global(1, 4);
        T.is("FIELD of an INT", x.send(4, 1, 0, 0), SendBench.KIND);
        T.is("FIELD of NIL", x.send(4, 2, 0, 0), SendBench.KIND);
        T.is("FIELD of an OBJECT", x.send(4, 0, 0, 0), SendBench.OK);
        Words.method(x, 0, 1, "CALL BLOCK 0 ADD SET 0 NUM 1 TEMP 0");
        x.send(1, 0, 0, 0);
        T.is("TEMP of the HOME", x.result(), 2);
        Words.method(x, 0, 2, "SAME TEMP 0 NIL");
        x.send(2, 0, 0, 0);
        T.is("TEMPS are NIL at first", x.result(), 1);
    }

    private static void messages() {
        SendBench x = new SendBench();
        x.cls(0, 0);
        x.cls(4, 0);
        x.cls(5, 0);
        x.create(0, 6);
        Words.method(x, 4, 0, "NUM 4");
        Words.method(x, 5, 0, "ADD NUM 50 SUPER 0");
        x.send(0, 0, 0, 0);
        T.is("SUPER goes on from where it was found", x.result(), 54);
        Words.method(x, 6, 0, "ADD NUM 600 CALL BLOCK 0 SUPER 0");
        x.send(0, 0, 0, 0);
        T.is("SUPER in a BLOCK", x.result(), 654);
        Words.method(x, 0, 0, "SUPER 0");
        T.is("SUPER of class 0", x.send(0, 1, 0, 0), SendBench.STRANGE);
        Words.method(x, 0, 11, "THEN SAY ARG 0 SAY ARG 1");
        T.is("SUPER of class 0 with 11", x.send(0, 1, 0, 0), SendBench.OK);
        B.says(x, "not found", 0, NIL);
        x.send(3, 0, 31, 32);
        B.says(x, "not found, no argument", 3, NIL);
        x.send(6, 0, 31, 32);
        B.says(x, "not found, one argument", 6, 31);
        x.send(10, 0, 31, 32);
        B.says(x, "not found, two arguments", 10, 31);
        Words.method(x, 4, 11, "NUM 411");
        x.send(3, 0, 0, 0);
        T.is("11 is found for the class itself", x.result(), 411);
        Words.method(x, 6, 2, "SUPER 2");
        x.send(2, 0, 0, 0);
        T.is("SUPER not found: 11 for SELF's class", x.result(), 411);
        Words.method(x, 6, 11, "IF SAME ARG 0 NUM 11 ARG 1 SUPER 11 NUM 5 NUM 6");
        x.send(3, 0, 0, 0);
        T.is("SUPER 11", x.result(), 411);
        superWithArguments();
        changes();
    }

    private static void superWithArguments() {
        SendBench x = new SendBench();
        x.cls(0, 0);
        x.create(0, 4);
        Words.method(x, 0, 4, "THEN SAY SELF ARG 0");
        Words.method(x, 0, 8, "THEN SAY SELF SUB ARG 0 ARG 1");
        Words.method(x, 0, 11, "THEN SAY ARG 0 SAY ARG 1");
        Words.method(x, 4, 4, "SUPER 4 ADD ARG 0 NUM 1");
        Words.method(x, 4, 8, "SUPER 8 ADD ARG 0 NUM 1 MUL ARG 1 NUM 10");
        Words.method(x, 4, 9, "SUPER 9 ADD ARG 0 NUM 1 NUM 3");
        x.send(4, 0, 5, 0);
        T.is("SUPER with one argument", x.result(), 6);
        B.says(x, "SUPER with one argument", Benches.object(0));
        x.send(8, 0, 5, 7);
        T.is("SUPER with two arguments", x.result(), -64);
        B.says(x, "SUPER with two arguments", Benches.object(0));
        x.send(9, 0, 5, 7);
        B.says(x, "SUPER with two arguments, not found", 9, 6);
    }

    private static void changes() {
        SendBench x = new SendBench();
        x.cls(0, 0);
        x.create(0, 4);
        Words.body(x, "NUM 1");
        Words.body(x, "NUM 2");
        x.bind(4, 0, 0);
        Words.method(x, 4, 1, "ADD SEND 0 SELF THEN BIND 4 0 1 MUL NUM 10 SEND 0 SELF");
        x.send(1, 0, 0, 0);
        T.is("BIND while it runs", x.result(), 21);
        x.send(1, 0, 0, 0);
        T.is("BIND stays", x.result(), 22);
        Words.method(x, 4, 2, "ADD BIND 4 2 0 NUM 1");
        T.is("BIND is worth NIL", x.send(2, 0, 0, 0), SendBench.KIND);
        T.is("what was done stays", x.send(2, 0, 0, 0), SendBench.OK);
        T.is("what was done stays", x.result(), 1);
        Words.method(x, 4, 3, "THEN BIND 1 3 1 ADD SEND 3 NUM 5 NUM 3");
        x.send(3, 0, 0, 0);
        T.is("a method of INTS", x.result(), 5);
    }

    private static void blocks() {
        B.gives("CALL BLOCK 0 NUM 4", 4);
        B.gives("GIVE BLOCK 1 PARAM 0 NUM 5", 5);
        B.gives("GIVE GIVE BLOCK 1 BLOCK 1 SUB PARAM 0 PARAM 1 NUM 3 NUM 10", 7);
        B.gives("GIVE CALL GIVE BLOCK 1 BLOCK 0 BLOCK 1 SUB PARAM 0 PARAM 2 NUM 3 NUM 10", 7);
        B.ends("CALL NIL", SendBench.KIND);
        B.ends("CALL SELF", SendBench.KIND);
        B.ends("CALL BLOCK 1 NIL", SendBench.KIND);
        B.ends("GIVE BLOCK 0 NIL NIL", SendBench.KIND);
        B.ends("GIVE NUM 1 NIL", SendBench.KIND);
        SendBench x = new SendBench();
        x.cls(0, 0);
        x.create(0, 4);
        x.create(1, 4);
        Words.method(x, 4, 4, "THEN SET 0 ARG 0 STORE 2 BLOCK 1 SET 0 ADD TEMP 0 PARAM 0");
        Words.method(x, 4, 5, "GIVE GLOBAL 2 ARG 0");
        x.send(4, 0, 10, 0);
        T.is("block", x.result(), Benches.block(2));
        x.send(5, 1, 1, 0);
        x.send(5, 1, 2, 0);
        T.is("a BLOCK goes on with its HOME's TEMPS", x.result(), 13);
        Words.method(x, 4, 6, "THEN STORE 2 BLOCK 0 THEN SAY SELF SAY ARG 0 CALL GLOBAL 2");
        Words.method(x, 4, 0, "CALL GLOBAL 2");
        x.send(6, 1, 77, 0);
        B.says(x, "SELF and ARG of the HOME", Benches.object(1), 77);
        x.send(0, 0, 0, 0);
        B.says(x, "SELF and ARG of the HOME, ended", Benches.object(1), 77);
        Words.method(x, 4, 1, "THEN SAY SEND 7 SELF NUM 1 THEN SAY SEND 7 SELF NUM 2 CALL GLOBAL 2");
        Words.method(x, 4, 7, "STORE 2 BLOCK 0 ARG 0");
        x.send(1, 0, 0, 0);
        T.is("each ACTIVATION has its own", x.result(), 2);
    }

    private static void returns() {
        B.gives("ADD NUM 1 RETURN NUM 5", 5);
        B.gives("ADD NUM 1 CALL BLOCK 0 ADD NUM 2 RETURN NUM 5", 5);
        B.gives("CALL BLOCK 0 CALL BLOCK 0 CALL BLOCK 0 RETURN NUM 6", 6);
        B.gives("RETURN RETURN NUM 6", 6);
        SendBench x = Benches.bench("ADD NUM 1 SEND 4 SELF BLOCK 0 RETURN NUM 9");
        Words.method(x, 4, 4, "THEN CALL ARG 0 SAY NUM 1");
        x.send(0, 0, 0, 0);
        T.is("RETURN through another", x.result(), 9);
        B.says(x, "RETURN through another");
        Words.method(x, 4, 1, "BLOCK 0 RETURN SAY NUM 9");
        Words.method(x, 4, 2, "CALL SEND 1 SELF");
        T.is("RETURN of an ended HOME", x.send(2, 0, 0, 0), SendBench.DEAD);
        B.says(x, "RETURN of an ended HOME works out first", 9);
        T.is("DEAD has no result", x.result(), NOTHING);
        Words.method(x, 4, 3, "ADD THEN STORE 1 BLOCK 0 RETURN NUM 1 NUM 1 NIL");
        T.is("a run ended", x.send(3, 0, 0, 0), SendBench.KIND);
        Words.method(x, 4, 2, "CALL GLOBAL 1");
        T.is("RETURN of a HOME whose run was ended", x.send(2, 0, 0, 0), SendBench.DEAD);
        SendBench y = Benches.bench("THEN STORE 1 BLOCK 0 RETURN NUM 1 SEND 1 SELF");
        T.is("the first run ended", y.send(0, 0, 0, 0), SendBench.STRANGE);
        Words.method(y, 4, 2, "CALL GLOBAL 1");
        T.is("RETURN of the HOME of the first run", y.send(2, 0, 0, 0), SendBench.DEAD);
    }

    private static void ensures() {
        B.gives("ENSURE NUM 3 NUM 4", 3);
        SendBench x = Benches.bench("THEN ENSURE ENSURE SAY NUM 1 SAY NUM 2 SAY NUM 3 SAY NUM 4");
        x.send(0, 0, 0, 0);
        B.says(x, "ENSURE", 1, 2, 3, 4);
        Words.method(x, 4, 0, "THEN ENSURE ENSURE RETURN SAY NUM 1 SAY NUM 2 SAY NUM 3 SAY NUM 4");
        x.send(0, 0, 0, 0);
        B.says(x, "ENSURE and RETURN", 1, 2, 3);
        T.is("ENSURE and RETURN", x.result(), 1);
        Words.method(x, 4, 4, "ENSURE CALL ARG 0 SAY SUB NUM 100 NUM 1");
        Words.method(x, 4, 0, "ENSURE SEND 4 SELF BLOCK 0 ENSURE RETURN NUM 1 SAY NUM 2 SAY NUM 3");
        x.send(0, 0, 0, 0);
        B.says(x, "the latest first", 2, 99, 3);
        T.is("the latest first", x.result(), 1);
        Words.method(x, 4, 0, "THEN SEND 4 SELF BLOCK 0 RETURN ENSURE NUM 8 SAY NUM 9 SAY NUM 10");
        x.send(0, 0, 0, 0);
        B.says(x, "those done are not done again", 9, 99);
        Words.method(x, 4, 0, "ENSURE ADD RETURN NUM 7 SAY NUM 1 SAY NUM 2");
        x.send(0, 0, 0, 0);
        B.says(x, "the second one, from wherever in the first", 2);
        T.is("the second one, from wherever in the first", x.result(), 7);
        Words.method(x, 4, 0, "ENSURE RETURN NUM 1 ADD NIL NUM 1");
        T.is("KIND in a second one", x.send(0, 0, 0, 0), SendBench.KIND);
        Words.method(x, 4, 0, "ENSURE ADD NIL NUM 1 SAY NUM 1");
        T.is("KIND in a first one", x.send(0, 0, 0, 0), SendBench.KIND);
        B.says(x, "no ENSURE when a run is ended");
        otherReturns();
    }

    private static void otherReturns() {
        SendBench x = Benches.bench("THEN ENSURE RETURN NUM 1 RETURN NUM 8 SAY NUM 4");
        x.send(0, 0, 0, 0);
        T.is("another RETURN counts", x.result(), 8);
        Words.method(x, 4, 4, "ADD NUM 100 ENSURE CALL ARG 0 RETURN NUM 5");
        Words.method(x, 4, 0, "ADD NUM 1000 SEND 4 SELF BLOCK 0 RETURN NUM 1");
        x.send(0, 0, 0, 0);
        T.is("another RETURN to a later HOME: what called it goes on", x.result(), 1005);
        Words.method(x, 4, 1, "RETURN SAY NUM 6");
        Words.method(x, 4, 0, "THEN ENSURE RETURN NUM 1 SEND 1 SELF SAY NUM 7");
        x.send(0, 0, 0, 0);
        B.says(x, "a RETURN whose HOME began in the second one", 6);
        T.is("a RETURN whose HOME began in the second one", x.result(), 1);
        Words.method(x, 4, 2, "ENSURE RETURN NUM 2 RETURN SAY NUM 3");
        Words.method(x, 4, 0, "THEN ENSURE RETURN NUM 1 SAY SEND 2 SELF SAY NUM 7");
        x.send(0, 0, 0, 0);
        B.says(x, "within the second one, another counts there", 3, 3);
        T.is("within the second one, another counts there", x.result(), 1);
        Words.method(x, 4, 0, "ENSURE ENSURE RETURN NUM 1 RETURN NUM 2 SAY NUM 3");
        x.send(0, 0, 0, 0);
        B.says(x, "the outer ENSURE once", 3);
        T.is("the outer ENSURE", x.result(), 2);
        Words.method(x, 4, 0, "ENSURE RETURN NUM 1 ENSURE RETURN NUM 2 SAY NUM 3");
        x.send(0, 0, 0, 0);
        B.says(x, "an ENSURE in the second one", 3);
        T.is("an ENSURE in the second one", x.result(), 2);
        Words.method(x, 4, 3, "THEN STORE 1 BLOCK 0 RETURN NUM 3 CALL GLOBAL 2");
        Words.method(x, 4, 0, "ENSURE THEN STORE 2 BLOCK 0 RETURN NUM 1 SEND 3 SELF CALL GLOBAL 1");
        T.is("what began after the ENSURE is not at work", x.send(0, 0, 0, 0), SendBench.DEAD);
    }

    private static void limitsOfARun() {
        SendBench x = Benches.bench("WHILE NUM 1 NUM 2");
        T.is("WHILE without end", x.send(0, 0, 0, 0), SendBench.LONG);
        T.is("STEPS", x.taken(0), 200);
        Words.method(x, 4, 4, "THEN SET 0 ARG 0 WHILE TEMP 0 SET 0 SUB TEMP 0 NUM 1");
        T.is("198 times", x.send(4, 0, 198, 0), SendBench.OK);
        T.is("198 times", x.result(), NIL);
        T.is("198 times", x.taken(0), 200);
        T.is("199 times", x.send(4, 0, 199, 0), SendBench.LONG);
        Words.method(x, 4, 5, "THEN SET 0 ARG 0 THEN WHILE TEMP 0 SET 0 SUB TEMP 0 NUM 1 CALL BLOCK 0 SAY NUM 1");
        T.is("197 times and a CALL", x.send(5, 0, 197, 0), SendBench.OK);
        T.is("198 times and a CALL", x.send(5, 0, 198, 0), SendBench.LONG);
        B.says(x, "198 times and a CALL");
        Words.method(x, 4, 6, "IF ARG 0 SEND 6 SELF SUB ARG 0 NUM 1 NUM 33");
        T.is("12 at work", x.send(6, 0, 11, 0), SendBench.OK);
        T.is("12 at work", x.taken(1), 12);
        T.is("13 at work", x.send(6, 0, 12, 0), SendBench.DEEP);
        T.is("13 at work, the STEP is taken", x.taken(0), 13);
        T.is("13 at work, at most", x.taken(1), 12);
        Words.method(x, 4, 1, "ENSURE SEND 1 SELF SAY NUM 1");
        T.is("no ENSURE", x.send(1, 0, 0, 0), SendBench.DEEP);
        B.says(x, "no ENSURE");
        Words.method(x, 4, 7, "THEN SET 0 ARG 0 THEN WHILE TEMP 0 SET 0 SUB TEMP 0 NUM 1 SEND 6 SELF NUM 20");
        T.is("LONG before DEEP", x.send(7, 0, 187, 0), SendBench.LONG);
        T.is("LONG before DEEP", x.taken(1), 12);
        T.is("LONG not yet", x.send(7, 0, 186, 0), SendBench.DEEP);
        T.is("LONG not yet", x.taken(0), 200);
    }

    private static void result() {
        SendBench x = Benches.bench("NEW 4");
        x.send(0, 0, 0, 0);
        T.is("11 not reachable", x.result(), Benches.object(1));
        T.is("11 not reachable", x.reachable(), 1);
        x.create(1, 4);
        x.create(2, 4);
        T.is("11 stays", x.result(), Benches.object(1));
        x.send(1, 0, 0, 0);
        T.is("11 after STRANGE", x.result(), NOTHING);
    }

    private static void readAndField() {
        SendBench x = Benches.bench("THEN PUT 0 NUM -3 THEN PUT 1 SELF STORE 1 BLOCK 0 NIL");
        x.send(0, 0, 0, 0);
        T.is("12 object", x.read(0), Benches.object(0));
        T.is("12 block", x.read(1), Benches.block(1));
        T.is("12 NIL", x.read(2), NIL);
        T.is("12 below", x.read(-1), NOTHING);
        T.is("12 above", x.read(4), NOTHING);
        T.is("13 field 0", x.field(0, 0), -3);
        T.is("13 field 1", x.field(0, 1), Benches.object(0));
        T.is("13 field 2", x.field(0, 2), NOTHING);
        T.is("13 field -1", x.field(0, -1), NOTHING);
        T.is("13 of a block", x.field(1, 0), NOTHING);
        T.is("13 of NIL", x.field(2, 0), NOTHING);
        T.is("13 global -1", x.field(-1, 0), NOTHING);
        T.is("13 global 4", x.field(4, 0), NOTHING);
        x.global(0, 5);
        T.is("13 of an int", x.field(0, 0), NOTHING);
    }

    private static void finds() {
        SendBench x = new SendBench();
        x.cls(0, 0);
        x.cls(4, 0);
        Words.body(x, "NIL");
        x.bind(0, 3, 0);
        for (int c = 0; c < 6; c++) T.is("14 class " + c, x.finds(c, 3), 0);
        x.bind(4, 3, 0);
        T.is("14 parent", x.finds(5, 3), 4);
        T.is("14 other selector", x.finds(5, 11), -1);
        x.bind(5, 3, 0);
        T.is("14 itself", x.finds(5, 3), 5);
        T.is("14 parent still", x.finds(4, 3), 4);
        T.is("14 class -1", x.finds(-1, 3), -1);
        T.is("14 class 6", x.finds(6, 3), -1);
        T.is("14 selector -1", x.finds(0, -1), -1);
        T.is("14 selector 12", x.finds(0, 12), -1);
    }

    /** With so many REACHABLE before, the program ends well; with one more, it is FULL. */
    private static void roomFor(int before, String program, String other) {
        for (int more = 0; more < 2; more++) {
            SendBench x = B.filled(before + more);
            Words.method(x, 0, 4, other);
            Words.method(x, 4, 0, program);
            T.is("15 " + program + " with " + (before + more), x.send(0, 0, 0, 0), more == 0 ? SendBench.OK : SendBench.FULL);
        }
    }

    private static void reachable() {
        roomFor(23, "NEW 4", "NIL");
        roomFor(23, "BLOCK 0 NIL", "NIL");
        roomFor(23, "THEN NEW 4 NEW 4", "NIL");
        roomFor(23, "IF NEW 4 NEW 4 NIL", "NIL");
        roomFor(23, "THEN SET 1 NUM 2 WHILE SET 1 SUB TEMP 1 NUM 1 THEN NEW 4 NEW 4", "NIL");
        roomFor(22, "SAME NEW 4 NEW 4", "NIL");
        roomFor(22, "ENSURE NEW 4 NEW 4", "NIL");
        roomFor(22, "ENSURE RETURN NEW 4 NEW 4", "NIL");
        roomFor(23, "ENSURE RETURN CLASS NEW 4 NEW 4", "NIL");
        roomFor(22, "THEN SET 1 NEW 4 NEW 4", "NIL");
        roomFor(23, "THEN SET 1 NEW 4 THEN SET 1 NIL NEW 4", "NIL");
        roomFor(23, "CALL BLOCK 0 NEW 4", "NIL");
        roomFor(22, "GIVE BLOCK 1 NEW 4 NEW 4", "NIL");
        roomFor(22, "GIVE BLOCK 1 NIL NEW 4", "NIL");
        roomFor(22, "SEND 4 SELF NEW 4", "NEW 4");
        roomFor(22, "SEND 4 NEW 4 NIL", "NEW 4");
        roomFor(23, "SEND 4 SELF NIL", "NEW 4");
        roomFor(22, "SEND 4 NEW 4 NEW 4", "NIL");
        roomFor(22, "SUPER 4 NEW 4", "NEW 4");
        roomFor(23, "SUPER 4 CLASS NEW 4", "NEW 4");
        roomFor(23, "ENSURE SAME NEW 4 RETURN NIL NEW 4", "NIL");
        roomFor(22, "SAME NEW 4 ENSURE RETURN NIL NEW 4", "NIL");
        roomFor(23, "ENSURE ENSURE RETURN NEW 4 RETURN NIL NEW 4", "NIL");
        roomFor(22, "ENSURE ENSURE RETURN NEW 4 NIL NEW 4", "NIL");
        roomFor(20, "GIVE BLOCK 1 SAME PARAM 0 NEW 4 SEND 4 SELF NEW 4", "SAME NEW 4 NEW 4");
        SendBench x = B.filled(24);
        x.global(3, 0);
        T.is("15 what nothing leads to", x.reachable(), 1);
        x.global(0, 0);
        T.is("15 nothing", x.reachable(), 0);
        SendBench y = Benches.bench("THEN PUT 0 SELF THEN PUT 1 NEW 4 STORE 1 FIELD 1");
        y.send(0, 0, 0, 0);
        T.is("15 each once", y.reachable(), 2);
        y.global(0, 0);
        T.is("15 a ring that nothing leads to", y.reachable(), 1);
        SendBench z = Benches.bench("THEN SET 0 NEW 4 STORE 0 GIVE BLOCK 1 BLOCK 0 NIL NEW 4");
        z.send(0, 0, 0, 0);
        T.is("15 by a BLOCK: SELF, TEMP and PARAM", z.reachable(), 4);
        reusedPlaces();
    }

    /** What is made later must not have anything of what was there before. */
    private static void reusedPlaces() {
        SendBench x = Benches.bench("THEN PUT 0 SELF PUT 1 NUM 7");
        Words.method(x, 4, 1, "THEN SET 0 NEW 4 STORE 0 BLOCK 0 NIL");
        for (int n = 0; n < 60; n++) {
            x.create(0, 4);
            T.is("15 a new OBJECT's FIELD 0", x.field(0, 0), NIL);
            T.is("15 a new OBJECT's FIELD 1", x.field(0, 1), NIL);
            T.is("15 a new OBJECT alone", x.reachable(), 1);
            x.send(n % 2, 0, 0, 0);
            T.is("15 reachable", x.reachable(), n % 2 == 0 ? 1 : 3);
        }
    }

    private static void saysAndSaid() {
        SendBench x = Benches.bench("THEN SAY NIL THEN SAY SELF THEN SAY BLOCK 0 NIL SAY NUM -5");
        x.send(0, 0, 0, 0);
        B.says(x, "17", NIL, Benches.object(0), Benches.block(1), -5);
        T.is("17 below", x.said(-1), NOTHING);
        Words.method(x, 4, 4, "THEN SET 0 ARG 0 WHILE TEMP 0 THEN SAY TEMP 0 SET 0 SUB TEMP 0 NUM 1");
        x.send(4, 0, 30, 0);
        T.is("16 all of them", x.says(), 30);
        T.is("17 the 20th", x.said(19), 11);
        T.is("17 the 21st", x.said(20), NOTHING);
        x.send(4, 0, 1, 0);
        T.is("16 of the latest run", x.says(), 1);
        T.is("17 of the latest run", x.said(1), NOTHING);
        x.send(12, 0, 1, 0);
        T.is("16 after BAD", x.says(), 1);
        x.send(5, 0, 0, 0);
        T.is("16 after STRANGE", x.says(), 0);
        T.is("17 after STRANGE", x.said(0), NOTHING);
        Words.method(x, 4, 1, "ADD SAY NUM 1 SAY NIL");
        x.send(1, 0, 0, 0);
        B.says(x, "17 after KIND", 1, NIL);
    }

    private static void taken() {
        SendBench x = Benches.bench("ADD CALL BLOCK 0 NUM 1 CALL BLOCK 0 CALL BLOCK 0 NUM 2");
        T.is("18 made before", x.taken(2), 1);
        x.send(0, 0, 0, 0);
        T.is("18 steps", x.taken(0), 4);
        T.is("18 at work at most", x.taken(1), 3);
        T.is("18 made", x.taken(2), 4);
        T.is("18 classes", x.taken(3), 5);
        T.is("18 bodies", x.taken(4), 1);
        for (int what : new int[] {-1, 5, Integer.MAX_VALUE, Integer.MIN_VALUE}) T.is("18 " + what, x.taken(what), -1);
        x.send(-1, 0, 0, 0);
        T.is("18 after BAD", x.taken(0), 4);
        x.send(1, 0, 0, 0);
        T.is("18 after STRANGE", x.taken(0), 0);
        T.is("18 after STRANGE", x.taken(1), 0);
        T.is("18 made ever", x.taken(2), 4);
    }

    private static void orderAndLimits() {
        for (String kind : new String[] {"ADD", "SUB", "MUL", "LESS", "GIVE"}) {
            SendBench x = Benches.bench(kind + " NIL SAY NUM 1");
            T.is("19 " + kind, x.send(0, 0, 0, 0), SendBench.KIND);
            B.says(x, "19 " + kind, 1);
        }
        SendBench x = Benches.bench("THEN SET 0 NUM 198 THEN WHILE TEMP 0 SET 0 SUB TEMP 0 NUM 1 CALL NIL");
        T.is("19 KIND before LONG", x.send(0, 0, 0, 0), SendBench.KIND);
        T.is("19 KIND before LONG", x.taken(0), 200);
        Words.method(x, 4, 4, "IF ARG 0 SEND 4 SELF SUB ARG 0 NUM 1 CALL NIL");
        T.is("19 KIND before DEEP", x.send(4, 0, 11, 0), SendBench.KIND);
        T.is("19 KIND before DEEP", x.taken(0), 12);
        Words.method(x, 4, 5, "IF ARG 0 SEND 5 SELF SUB ARG 0 NUM 1 GIVE BLOCK 0 NIL NIL");
        T.is("19 KIND before DEEP", x.send(5, 0, 11, 0), SendBench.KIND);
        Words.method(x, 4, 6, "IF ARG 0 SEND 6 SELF SUB ARG 0 NUM 1 SEND 1 SELF");
        T.is("19 STRANGE before DEEP", x.send(6, 0, 11, 0), SendBench.STRANGE);
        T.is("19 BAD keeps the latest run", x.send(0, 4, 0, 0), SendBench.BAD);
        T.is("19 BAD keeps the latest run", x.taken(0), 12);
    }
}
