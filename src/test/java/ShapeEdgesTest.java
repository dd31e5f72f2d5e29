/** The boundary cases of TOKENS and BODIES, sentence by sentence: the table of the kinds, its rules, and place. */
public final class ShapeEdgesTest {
    private static final int[] FAR = {Integer.MIN_VALUE, -65536, -257, -256, -17, -16, -1};
    private static final int ANY = 0;
    /** How many values a kind has, in the order of the document's table; BIND has rules of its own. */
    private static final int[] VALUES = {
        ANY, ANY, ANY, 2, 3, 3, 4, 4, 4, 4, 12, 12, 2, 3, ANY, ANY, ANY, ANY, ANY, ANY, ANY, ANY, ANY, ANY, ANY, 10, ANY,
        ANY, -1, ANY};
    private static final Checks T = new Checks("shape edges");
    private static final Benches B = new Benches(T);

    public static void main(String[] args) {
        kinds();
        values();
        bindValues();
        valuesNotLookedAt();
        lengths();
        operands();
        argumentsOfSelectors();
        blocksAround();
        params();
        classesOfNew();
        classesOfBind();
        bodiesOfBind();
        argsOfBind();
        placeOfTheFirstWrong();
        placeOfWhatIsMissing();
        placeOfAnyLength();
        placeOfTheLatest();
        T.end();
    }

    private static void kinds() {
        T.sentence("BAD if kind is none of these");
        SendBench x = new SendBench();
        T.is("kind 0", x.token(0, 0), 1);
        T.is("kind 29", x.token(29, 0), 2);
        for (int kind : new int[] {-1, 30, 31, 32, 256, -256, Integer.MAX_VALUE, Integer.MIN_VALUE}) {
            T.is("kind " + kind, x.token(kind, 0), SendBench.BAD);
            B.unchanged("token(" + kind + ", 0)", Benches::rich, y -> y.token(kind, 0), SendBench.BAD);
        }
        T.is("wipe", x.wipe(), 2);
    }

    private static void values() {
        for (int kind = 0; kind < 30; kind++) {
            if (VALUES[kind] <= 0) continue;
            T.sentence(Words.NAMES[kind] + " 0.." + (VALUES[kind] - 1));
            for (int v : FAR) outside(kind, v);
            outside(kind, VALUES[kind]);
            outside(kind, VALUES[kind] + 1);
            outside(kind, 256 + VALUES[kind] - 1);
            outside(kind, Integer.MAX_VALUE);
            SendBench x = new SendBench();
            for (int v = 0; v < VALUES[kind]; v++) T.is("value " + v, x.token(kind, v), v + 1);
        }
        for (int kind = 0; kind < 30; kind++) {
            if (VALUES[kind] != ANY) continue;
            T.sentence(kind == 0 ? "NUM any int" : "those kinds that have no value here do not look at it");
            SendBench x = new SendBench();
            int n = 0;
            for (int v : FAR) T.is(Words.NAMES[kind] + " " + v, x.token(kind, v), ++n);
            for (int v : new int[] {0, 1, 12, 2560, Integer.MAX_VALUE}) T.is(Words.NAMES[kind] + " " + v, x.token(kind, v), ++n);
        }
    }

    private static void outside(int kind, int v) {
        B.unchanged("token(" + kind + ", " + v + ")", Benches::rich, x -> x.token(kind, v), SendBench.BAD);
    }

    private static void bindValues() {
        T.sentence("BIND 256 c + 16 s + b (c of NEW and BIND 0..9, b 0..11)");
        for (int c = 0; c < 11; c++) {
            SendBench x = new SendBench();
            for (int s : new int[] {0, 11, 12, 15}) {
                for (int b : new int[] {0, 11, 12, 15}) {
                    int v = 256 * c + 16 * s + b;
                    int had = x.wipe();
                    T.is("had", had < 2, true);
                    T.is("BIND " + c + " " + s + " " + b, x.token(28, v), c < 10 && s < 12 && b < 12 ? 1 : SendBench.BAD);
                }
            }
        }
        for (int v : FAR) outside(28, v);
        for (int v : new int[] {12, 15, 12 * 16, 15 * 16, 2560, 2560 + 256, 65536, Integer.MAX_VALUE}) outside(28, v);
    }

    /** The same programs, but each kind that has no value is given one. */
    private static void valuesNotLookedAt() {
        T.sentence("those kinds that have no value here do not look at it");
        String[] programs = {
            "THEN SAY NIL SAY SELF", "CALL BLOCK 0 CLASS NUM 4", "GIVE BLOCK 1 ADD PARAM 0 PARAM 0 NUM 6",
            "ADD SUB NUM 9 NUM 2 MUL NUM 3 NUM 100", "ADD LESS NUM 1 NUM 2 SAME NIL NIL", "IF NIL NUM 1 IF NUM 1 NUM 2 NUM 3",
            "WHILE LESS SET 0 ADD IF TEMP 0 TEMP 0 NUM 0 NUM 1 NUM 3 SAY TEMP 0", "ENSURE SAY NUM 1 SAY NUM 2",
            "THEN ENSURE RETURN NUM 3 SAY NUM 4 NUM 5"};
        for (String program : programs) {
            SendBench plain = Benches.bench(program);
            plain.send(0, 0, 0, 0);
            String due = Benches.told(plain);
            for (int v : new int[] {Integer.MIN_VALUE, -1, 1, 4, 11, 300, Integer.MAX_VALUE}) {
                SendBench x = new SendBench();
                x.cls(0, 2);
                x.create(0, 4);
                for (int[] token : Words.tokens(program)) {
                    x.token(token[0], VALUES[token[0]] == ANY && token[0] != 0 ? v : token[1]);
                }
                T.is("body of " + program, x.body(), 0);
                x.bind(4, 0, 0);
                T.is("send of " + program, x.send(0, 0, 0, 0), SendBench.OK);
                T.same("what is told of " + program, Benches.told(x), due);
            }
        }
    }

    private static void lengths() {
        T.sentence("A BODY is an expression E of at most 32 TOKENS");
        String most = "ADD NUM 1 ".repeat(15) + "CLASS NIL";
        for (int more = 0; more < 2; more++) {
            SendBench x = new SendBench();
            Words.draft(x, most);
            if (more == 1) T.is("token with 32", x.token(0, 3), SendBench.NOROOM);
            T.is("body of 32", x.body(), 0);
            T.is("place", x.place(), -1);
            x.bind(2, 0, 0);
            T.is("send", x.send(0, 0, 0, 0), SendBench.OK);
            T.is("result", x.result(), 17);
        }
        T.sentence("A BODY is an expression E");
        SendBench x = new SendBench();
        T.is("body of none", x.body(), SendBench.SHAPE);
        T.is("body of one", Words.body(x, "NIL"), 0);
        T.is("body of two that are one each", Words.body(x, "NIL NIL"), SendBench.SHAPE);
    }

    private static void shape(SendBench x, String program, int place) {
        int bodies = x.taken(4);
        T.is("body of " + program, Words.body(x, program), place < 0 ? bodies : SendBench.SHAPE);
        T.is("place of " + program, x.place(), place);
        T.is("BODIES after " + program, x.taken(4), place < 0 ? bodies + 1 : bodies);
        T.is("draft after " + program, x.wipe(), 0);
    }

    private static void shape(String program, int place) {
        SendBench x = new SendBench();
        x.cls(0, 0);
        Words.body(x, "NIL");
        shape(x, program, place);
    }

    /** With one E too few, as many as it needs, and one too many. */
    private static void needs(String head, int operands) {
        T.sentence(head + " needs " + operands + " E");
        if (operands > 0) shape(head + " NIL".repeat(operands - 1), operands);
        shape(head + " NIL".repeat(operands), -1);
        shape(head + " NIL".repeat(operands + 1), operands + 1);
    }

    private static void operands() {
        for (String head : new String[] {"NUM 3", "NIL", "SELF", "ARG 1", "TEMP 2", "FIELD 3", "GLOBAL 3", "NEW 4", "BIND 4 0 0"}) {
            needs(head, 0);
        }
        for (String head : new String[] {"SET 2", "PUT 3", "STORE 3", "BLOCK 0", "BLOCK 1", "CALL", "RETURN", "SAY", "CLASS"}) {
            needs(head, 1);
        }
        for (String head : new String[] {"GIVE", "THEN", "ADD", "SUB", "MUL", "LESS", "SAME", "WHILE", "ENSURE"}) needs(head, 2);
        needs("IF", 3);
        T.sentence("PARAM needs 0 E");
        shape("BLOCK 1 PARAM 0", -1);
        shape("BLOCK 1 PARAM 0 NIL", 2);
    }

    private static void argumentsOfSelectors() {
        for (int s = 0; s < 12; s++) {
            needs("SEND " + s, 1 + s / 4);
            needs("SUPER " + s, s / 4);
        }
    }

    private static void blocksAround() {
        T.sentence("At most 3 BLOCKS stand around one another");
        for (int v = 0; v < 2; v++) {
            String block = "BLOCK " + v + " ";
            shape(block.repeat(3) + "NIL", -1);
            shape(block.repeat(4) + "NIL", 3);
            shape(block.repeat(5) + "NIL", 3);
            shape(block + "THEN " + block + "SAY " + block + "IF NIL NIL NIL NIL", -1);
            shape(block + "THEN " + block + "SAY " + block + "IF NIL NIL " + block + "NIL NIL", 8);
            shape("THEN " + block.repeat(3) + "NIL " + block.repeat(3) + "NIL", -1);
            shape("THEN " + block.repeat(3) + "NIL " + block.repeat(4) + "NIL", 8);
            shape(block.repeat(2) + "THEN " + block + "NIL " + block + "NIL", -1);
            shape(block.repeat(2) + "THEN " + block + "NIL " + block.repeat(2) + "NIL", 6);
            shape("THEN " + block + "NIL THEN " + block.repeat(3) + "NIL NIL", -1);
            shape("THEN " + block + "NIL IF NIL " + block.repeat(4) + "NIL NIL", 8);
        }
    }

    private static void params() {
        T.sentence("PARAM j has more than j BLOCKS around it");
        for (int around = 0; around <= 3; around++) {
            for (int j = 0; j < 3; j++) shape("BLOCK 1 ".repeat(around) + "PARAM " + j, j < around ? -1 : around);
        }
        shape("THEN BLOCK 1 NIL PARAM 0", 3);
        shape("BLOCK 1 THEN BLOCK 1 NIL PARAM 0", -1);
        shape("BLOCK 1 THEN BLOCK 1 NIL PARAM 1", 4);
        shape("GIVE BLOCK 1 PARAM 0 PARAM 0", 3);
        shape("THEN BLOCK 1 NIL THEN PARAM 0 NIL", 4);
        shape("THEN BLOCK 1 NIL IF NIL PARAM 0 NIL", 5);
        shape("BLOCK 1 IF BLOCK 0 NIL THEN PARAM 0 NIL THEN NIL PARAM 0", -1);
        T.sentence("the j-th of them (0 the innermost) with value 1");
        for (int values = 0; values < 8; values++) {
            String blocks = "BLOCK " + (values >> 2) + " BLOCK " + (values >> 1 & 1) + " BLOCK " + (values & 1) + " ";
            for (int j = 0; j < 3; j++) shape(blocks + "PARAM " + j, (values >> j & 1) == 1 ? -1 : 3);
        }
        shape("BLOCK 0 THEN BLOCK 1 PARAM 0 PARAM 0", 4);
        shape("BLOCK 1 THEN BLOCK 0 NIL PARAM 0", -1);
    }

    private static void classesOfNew() {
        T.sentence("c of NEW is a class that is there, but not 1..3");
        SendBench x = new SendBench();
        shape(x, "NEW 0", -1);
        for (int c = 1; c < 10; c++) shape(x, "NEW " + c, 0);
        for (int c = 4; c < 10; c++) {
            shape(x, "SAY NEW " + c, 1);
            T.is("cls", x.cls(0, 0), c);
            shape(x, "SAY NEW " + c, -1);
        }
        for (int c = 1; c < 4; c++) shape(x, "THEN NIL NEW " + c, 2);
    }

    private static void classesOfBind() {
        T.sentence("in BIND c is a class that is there");
        SendBench x = new SendBench();
        shape(x, "NIL", -1);
        for (int c = 0; c < 4; c++) shape(x, "BIND " + c + " 0 0", -1);
        for (int c = 4; c < 10; c++) {
            shape(x, "SAY BIND " + c + " 0 0", 1);
            T.is("cls", x.cls(0, 0), c);
            shape(x, "SAY BIND " + c + " 0 0", -1);
        }
    }

    private static void bodiesOfBind() {
        T.sentence("b a BODY that is there");
        SendBench x = new SendBench();
        shape(x, "BIND 0 0 0", 0);
        shape(x, "NIL", -1);
        for (int b = 1; b < 12; b++) {
            shape(x, "BIND 0 0 " + b, 0);
            shape(x, "THEN NIL BIND 0 0 " + b, 2);
            shape(x, "BIND 0 0 " + (b - 1), -1);
        }
    }

    private static void argsOfBind() {
        T.sentence("in BIND b does not use an ARG from s / 4 on");
        String[] bodies = {"NUM 1", "ARG 0", "ARG 1", "BLOCK 0 ADD NUM 1 ARG 0", "THEN NIL ARG 1", "SUB ARG 1 ARG 0", "TEMP 1"};
        int[] needed = {0, 1, 2, 1, 2, 2, 0};
        for (int c : new int[] {0, 1, 4, 9}) {
            for (int b = 0; b < 11; b++) {
                for (int s = 0; s < 12; s++) {
                    SendBench x = new SendBench();
                    for (int n = 4; n < 10; n++) x.cls(0, 0);
                    for (int n = 0; n < 11; n++) Words.body(x, bodies[n % 7]);
                    shape(x, "BIND " + c + " " + s + " " + b, needed[b % 7] <= s / 4 ? -1 : 0);
                }
            }
        }
    }

    private static void placeOfTheFirstWrong() {
        T.sentence("the first token such that no BODY begins with the tokens up to it and with it");
        shape("NIL NIL", 1);
        shape("NIL NIL NEW 1", 1);
        shape("NIL ADD", 1);
        shape("THEN NEW 1 PARAM 0", 1);
        shape("THEN NIL PARAM 0", 2);
        shape("THEN PARAM 0", 1);
        shape("ADD NEW 3", 1);
        shape("ADD NUM 1 NUM 2 ADD NUM 1", 3);
        shape("IF NIL NIL NIL NIL NIL", 4);
        shape("SAY SAY SAY NIL NIL SAY", 4);
        shape("BLOCK 0 NIL BLOCK 0 NIL", 2);
        shape("BLOCK 0 BLOCK 0 BLOCK 0 BLOCK 0", 3);
        shape("BIND 5 0 0 NIL", 0);
        shape("NIL BIND 5 0 0", 1);
    }

    private static void placeOfWhatIsMissing() {
        T.sentence("or their number if something is missing");
        shape("", 0);
        shape("SAY", 1);
        shape("THEN", 1);
        shape("THEN NIL", 2);
        shape("IF NIL NIL", 3);
        shape("SEND 8 NIL NIL", 3);
        shape("BLOCK 0 BLOCK 0 BLOCK 0", 3);
        shape("BLOCK 1 ADD PARAM 0", 3);
    }

    private static void placeOfAnyLength() {
        T.sentence("no BODY (were it of any length) begins with");
        shape("THEN ".repeat(32), 32);
        shape("IF ".repeat(32), 32);
        shape("SAY ".repeat(32), 32);
        shape("THEN ".repeat(31) + "NIL", 32);
        shape("THEN ".repeat(31) + "PARAM 0", 31);
        shape("SAY ".repeat(31) + "NIL", -1);
        shape("SAY ".repeat(30) + "NIL NIL", 31);
    }

    private static void placeOfTheLatest() {
        T.sentence("Of the latest body() that was not NOROOM, if it was SHAPE; else -1");
        SendBench x = new SendBench();
        T.is("before any body", x.place(), -1);
        Words.draft(x, "NIL NIL");
        T.is("before any body, with a draft", x.place(), -1);
        T.is("body", x.body(), SendBench.SHAPE);
        T.is("after SHAPE", x.place(), 1);
        Words.draft(x, "ADD");
        T.is("after SHAPE and a token", x.place(), 1);
        x.wipe();
        T.is("after SHAPE and wipe", x.place(), 1);
        T.is("body", Words.body(x, "THEN NIL"), SendBench.SHAPE);
        T.is("after another SHAPE", x.place(), 2);
        for (int b = 0; b < 11; b++) T.is("body", Words.body(x, "NIL"), b);
        T.is("after a BODY", x.place(), -1);
        T.is("body", Words.body(x, "SAY SAY SAY"), SendBench.SHAPE);
        T.is("after SHAPE", x.place(), 3);
        T.is("body", Words.body(x, "NIL"), 11);
        T.is("after the last BODY", x.place(), -1);
        T.is("body", Words.body(x, "SAY"), SendBench.NOROOM);
        T.is("after NOROOM", x.place(), -1);
    }
}
