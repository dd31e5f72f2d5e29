/** The boundary cases of what is REACHABLE, phrase by phrase: with so many a run ends well, with one more it is FULL. */
public final class RoomEdgesTest {
    private static final Checks T = new Checks("room edges");
    private static final Benches B = new Benches(T);

    public static void main(String[] args) {
        fullOr24();
        fullChangesNothing();
        globalsLead();
        selfLeads();
        argsLead();
        tempsLead();
        paramsLead();
        withinLeads();
        blocksLead();
        fieldsLead();
        byOthers();
        operandsWait();
        returnsUnderWay();
        firstOnesOfEnsure();
        operandsOfWhatHasBegun();
        whatWaitsNoMore();
        endedActivations();
        afterTheRun();
        roomAgain();
        T.end();
    }

    /** With so many REACHABLE before, the program ends as due; with one more, it is FULL. Selectors 1 and 4..11 are free. */
    private static void room(int most, int due, String program, String... methods) {
        for (int more = 0; more < 2; more++) {
            SendBench x = B.filled(most + more);
            for (int i = 0; i < methods.length; i += 2) Words.method(x, 4, Integer.parseInt(methods[i]), methods[i + 1]);
            Words.method(x, 4, 0, program);
            T.is(program + " with " + (most + more), x.send(0, 0, 0, 0), more == 0 ? due : SendBench.FULL);
        }
    }

    private static void room(int most, String program, String... methods) {
        room(most, SendBench.OK, program, methods);
    }

    private static void fullOr24() {
        T.sentence("If an OBJECT or a BLOCK is made while 24 of these are REACHABLE: FULL");
        for (String make : new String[] {"NEW 4", "NEW 0", "BLOCK 0 NIL", "BLOCK 1 NIL"}) {
            room(23, make);
            room(22, "THEN SET 1 " + make + " " + make);
            room(20, "THEN SET 0 " + make + " THEN SET 1 " + make + " THEN SET 2 " + make + " " + make);
        }
        for (int n = 1; n <= 24; n++) T.is("reachable", B.filled(n).reachable(), n);
    }

    private static void fullChangesNothing() {
        T.sentence("OBJECTS and BLOCKS have NUMBERS as they are made: FULL makes none");
        for (String make : new String[] {"NEW 4", "BLOCK 0 NIL"}) {
            SendBench x = B.filled(24);
            Words.method(x, 4, 0, "THEN SAY NUM 1 THEN STORE 1 " + make + " SAY NUM 2");
            int made = x.taken(2);
            T.is("send", x.send(0, 0, 0, 0), SendBench.FULL);
            B.says(x, "said", 1);
            T.is("made", x.taken(2), made);
            T.is("GLOBAL 1", x.read(1), Benches.NIL);
            T.is("reachable", x.reachable(), 24);
            x.global(3, 0);
            T.is("the next NUMBER", x.create(1, 4), made);
        }
    }

    private static void globalsLead() {
        T.sentence("REACHABLE are the OBJECTS and BLOCKS to which GLOBALS lead");
        for (int k = 0; k < 4; k++) {
            SendBench x = new SendBench();
            T.is("none", x.reachable(), 0);
            x.create(k, 0);
            T.is("GLOBAL " + k, x.reachable(), 1);
            x.create(k, 0);
            T.is("another one", x.reachable(), 1);
            x.global(k, 0);
            T.is("an INT", x.reachable(), 0);
            Words.method(x, 0, 0, "STORE " + k + " BLOCK 0 NIL");
            x.send(0, 0, 0, 0);
            T.is("a BLOCK", x.reachable(), 1);
        }
        SendBench x = new SendBench();
        for (int k = 0; k < 4; k++) x.create(k, 0);
        T.is("four", x.reachable(), 4);
        for (int k = 0; k < 4; k++) room(22, "THEN STORE " + (k == 3 ? 1 : k) + " NEW 4 NEW 4");
    }

    /** What GLOBAL 0 was is SELF alone then. */
    private static void selfLeads() {
        T.sentence("ACTIVATIONS at work lead to SELF");
        room(23, "THEN STORE 0 NIL NEW 4");
        room(22, "SEND 1 NEW 4", "1", "NEW 4");
    }

    private static void argsLead() {
        T.sentence("ACTIVATIONS at work lead to ARGS");
        room(22, "SEND 4 SELF NEW 4", "4", "NEW 4");
        room(22, "SEND 8 SELF NEW 4 NIL", "8", "NEW 4");
        room(22, "SEND 8 SELF NIL NEW 4", "8", "NEW 4");
        room(21, "SEND 8 SELF NEW 4 NEW 4", "8", "NEW 4");
        room(22, "SEND 5 SELF NEW 4", "11", "NEW 4");
        room(22, "SEND 9 SELF NEW 4 NIL", "11", "NEW 4");
        room(22, "SUPER 5 NEW 4", "11", "NEW 4");
    }

    private static void tempsLead() {
        T.sentence("ACTIVATIONS at work lead to TEMPS");
        for (int v = 0; v < 3; v++) {
            room(22, "THEN SET " + v + " NEW 4 NEW 4");
            room(23, "THEN SET " + v + " NEW 4 THEN SET " + v + " NIL NEW 4");
            room(22, "THEN SET " + v + " NEW 4 SEND 1 SELF", "1", "NEW 4");
        }
    }

    private static void paramsLead() {
        T.sentence("ACTIVATIONS at work lead to PARAM");
        room(22, "GIVE BLOCK 1 NEW 4 NEW 4");
        room(22, "GIVE BLOCK 1 SEND 1 SELF NEW 4", "1", "NEW 4");
        room(22, "GIVE BLOCK 1 NIL NEW 4");
    }

    /** The BLOCK that runs is not REACHABLE itself, but what it stands within is. */
    private static void withinLeads() {
        T.sentence("ACTIVATIONS at work lead to that within which they are");
        room(22, "CALL SEND 1 SELF", "1", "BLOCK 0 THEN SET 0 NEW 4 NEW 4");
        room(21, "CALL SEND 1 SELF", "1", "BLOCK 0 THEN SET 0 NEW 4 THEN SET 2 NEW 4 NEW 4");
        room(22, "CALL GIVE BLOCK 1 BLOCK 0 NEW 4 NEW 4");
        room(22, "CALL SEND 1 SELF", "1", "GIVE BLOCK 1 BLOCK 0 NEW 4 NEW 4");
        room(22, "CALL SEND 1 SELF", "1", "CALL BLOCK 0 BLOCK 0 THEN SET 0 NEW 4 NEW 4");
        room(22, "CALL SEND 4 SELF NEW 4", "4", "BLOCK 0 NEW 4");
        T.sentence("ACTIVATIONS are of a BODY; or of a BLOCK, within the ACTIVATION in which it was made");
        SendBench x = Benches.bench("THEN CALL SEND 1 SELF SEND 2 SELF");
        Words.method(x, 4, 1, "BLOCK 0 NIL");
        Words.method(x, 4, 2, "THEN SET 0 NEW 4 SEND 3 SELF");
        Words.method(x, 4, 3, "STORE 1 BLOCK 0 NIL");
        T.is("send", x.send(0, 0, 0, 0), SendBench.OK);
        T.is("one of a BODY is within none, also not within who sent", x.reachable(), 2);
    }

    private static void blocksLead() {
        T.sentence("a BLOCK leads to the ACTIVATION that it keeps, also when it has ended");
        String[] before = {"SET 0 NEW 4", "SET 1 NEW 4", "SET 2 NEW 4", "SET 0 BLOCK 0 NIL", "SET 0 NUM 1"};
        for (int i = 0; i < before.length; i++) {
            SendBench x = Benches.bench("THEN " + before[i] + " STORE 0 BLOCK 0 NIL");
            x.send(0, 0, 0, 0);
            T.is(before[i] + " and SELF", x.reachable(), i < 4 ? 3 : 2);
            x.global(0, 0);
            T.is("none", x.reachable(), 0);
        }
        SendBench x = Benches.bench("SEND 8 SELF NEW 4 NEW 4");
        Words.method(x, 4, 8, "STORE 0 BLOCK 0 NIL");
        x.send(0, 0, 0, 0);
        T.is("SELF and two ARGS", x.reachable(), 4);
        SendBench y = Benches.bench("STORE 0 GIVE GIVE BLOCK 1 BLOCK 1 BLOCK 0 NIL NEW 4 NEW 4");
        y.send(0, 0, 0, 0);
        T.is("PARAMS of the BLOCKS around, and SELF", y.reachable(), 4);
        SendBench z = Benches.bench("STORE 0 GIVE GIVE BLOCK 1 BLOCK 1 PARAM 1 NEW 4 NEW 4");
        z.send(0, 0, 0, 0);
        T.is("without a BLOCK", z.reachable(), 1);
    }

    private static void fieldsLead() {
        T.sentence("an OBJECT leads to its FIELDS");
        SendBench x = new SendBench();
        x.cls(0, 4);
        x.create(0, 4);
        for (int j = 0; j < 4; j++) Words.method(x, 4, j, "PUT " + j + " NEW 4");
        for (int j = 0; j < 4; j++) Words.method(x, 4, 4 + j, "PUT " + j + " ARG 0");
        for (int j = 0; j < 4; j++) {
            x.send(j, 0, 0, 0);
            T.is("FIELD " + j, x.reachable(), j + 2);
        }
        for (int j = 0; j < 4; j++) {
            x.send(4 + j, 0, 0, 0);
            T.is("FIELD " + j + " is an INT", x.reachable(), 4 - j);
        }
        room(22, "THEN PUT 1 NEW 4 NEW 4");
        room(23, "THEN PUT 1 NEW 4 THEN PUT 1 NIL NEW 4");
    }

    private static void byOthers() {
        T.sentence("lead, at once or by others");
        SendBench x = new SendBench();
        x.cls(0, 2);
        x.create(0, 4);
        Words.method(x, 4, 0, "THEN SET 0 NEW 4 SEND 1 TEMP 0");
        Words.method(x, 4, 1, "THEN PUT 0 GLOBAL 1 STORE 1 SELF");
        Words.method(x, 4, 2, "STORE 1 FIELD 0");
        for (int n = 1; n < 24; n++) {
            T.is("longer", x.send(0, 0, 0, 0), SendBench.OK);
            T.is("a list", x.reachable(), n + 1);
        }
        T.is("the 25th", x.send(0, 0, 0, 0), SendBench.FULL);
        for (int n = 23; n > 0; n--) {
            T.is("shorter", x.send(2, 1, 0, 0), SendBench.OK);
            T.is("a list", x.reachable(), n);
        }
        T.sentence("REACHABLE: each counts once, and rings end");
        SendBench y = Benches.bench("THEN PUT 0 SELF THEN PUT 1 SELF THEN STORE 1 SELF STORE 2 SELF");
        y.send(0, 0, 0, 0);
        T.is("once", y.reachable(), 1);
        SendBench z = Benches.bench("THEN SET 0 BLOCK 0 TEMP 0 PUT 0 TEMP 0");
        z.send(0, 0, 0, 0);
        T.is("a ring of a BLOCK and its HOME", z.reachable(), 2);
        z.global(0, 0);
        T.is("a ring to which nothing leads", z.reachable(), 0);
    }

    private static void operandsWait() {
        T.sentence("operands that were worked out and wait");
        room(22, "SAME NEW 4 NEW 4");
        for (String kind : new String[] {"ADD", "SUB", "MUL", "LESS"}) room(22, SendBench.KIND, kind + " NEW 4 NEW 4");
        room(21, "SAME NEW 4 SAME NEW 4 NEW 4");
        room(22, "SAME SAME NEW 4 NEW 4 NEW 4");
        room(22, "SEND 4 NEW 4 NEW 4", "4", "NIL");
        room(21, "SEND 8 NEW 4 NEW 4 NEW 4", "8", "NIL");
        room(22, "SEND 8 SELF NEW 4 NEW 4", "8", "NIL");
        room(22, SendBench.STRANGE, "SUPER 8 NEW 4 NEW 4");
        room(22, SendBench.KIND, "GIVE NEW 4 NEW 4");
        room(22, "GIVE BLOCK 1 NIL BLOCK 0 NIL");
        room(22, "SAME NEW 4 SEND 1 SELF", "1", "NEW 4");
        room(22, "SAME NEW 4 CALL BLOCK 0 NEW 4");
    }

    private static void returnsUnderWay() {
        T.sentence("also what a RETURN has under way");
        room(22, "ENSURE RETURN NEW 4 NEW 4");
        room(23, "ENSURE RETURN NIL NEW 4");
        room(22, "ENSURE ENSURE RETURN NEW 4 NIL NEW 4");
        room(22, "ENSURE RETURN NEW 4 SEND 1 SELF", "1", "NEW 4");
        room(21, "SEND 4 SELF BLOCK 0 RETURN NEW 4", "4", "ENSURE CALL ARG 0 NEW 4");
        room(23, "ENSURE ENSURE RETURN NEW 4 RETURN NIL NEW 4");
    }

    private static void firstOnesOfEnsure() {
        T.sentence("and the first one of an ENSURE");
        room(22, "ENSURE NEW 4 NEW 4");
        room(23, "ENSURE NIL NEW 4");
        room(23, "THEN ENSURE NEW 4 NIL NEW 4");
        room(21, "ENSURE NEW 4 ENSURE NEW 4 NEW 4");
    }

    /** A BLOCK that runs, and an argument that SELECTOR 11 does not get, are kept by nothing else. */
    private static void operandsOfWhatHasBegun() {
        T.sentence("no more those of a SEND, SUPER, CALL or GIVE when its ACTIVATION has begun");
        room(23, "SEND 9 SELF NIL NEW 4", "11", "NEW 4");
        room(23, "SUPER 9 NIL NEW 4", "11", "NEW 4");
        room(23, "CALL BLOCK 0 NEW 4");
        room(23, "GIVE BLOCK 1 NEW 4 NIL");
        room(23, "SEND 4 SELF NUM 1", "4", "NEW 4");
    }

    private static void whatWaitsNoMore() {
        T.sentence("the first E of a THEN, and what IF and WHILE have looked at, waits no more when it is worked out");
        room(23, "THEN NEW 4 NEW 4");
        room(23, "IF NEW 4 NEW 4 NIL");
        room(23, "IF CLASS NEW 4 NEW 4 NIL");
        room(23, "IF NIL NIL NEW 4");
        room(23, "WHILE IF TEMP 0 NIL NEW 4 THEN SET 0 NUM 1 NEW 4");
        room(23, "THEN WHILE IF TEMP 0 NIL SET 0 NUM 1 NEW 4 NEW 4");
        room(23, "WHILE LESS SET 0 ADD IF TEMP 0 TEMP 0 NUM 0 NUM 1 NUM 5 NEW 4");
        room(23, "THEN SAY NEW 4 NEW 4");
        room(23, "THEN CLASS NEW 4 NEW 4");
        room(23, "THEN SAME SELF NEW 4 NEW 4");
    }

    private static void endedActivations() {
        T.sentence("ACTIVATIONS at work: those that have ended lead to nothing, unless a BLOCK keeps them");
        room(23, "THEN SEND 1 SELF NEW 4", "1", "SET 0 NEW 4");
        room(23, "THEN SEND 4 SELF NEW 4 NEW 4", "4", "NIL");
        room(23, "THEN SEND 1 SELF NEW 4", "1", "THEN SET 0 NEW 4 RETURN NIL");
        room(23, "ENSURE SEND 4 SELF BLOCK 0 RETURN NIL NEW 4", "4", "CALL ARG 0");
        room(23, "ENSURE SAME NEW 4 RETURN NIL NEW 4");
        room(22, "THEN SET 0 SEND 1 SELF NEW 4", "1", "BLOCK 0 NIL");
        room(22, "THEN SET 0 BLOCK 0 NEW 4 THEN SEND 1 NEW 4 CALL TEMP 0", "1", "NIL");
        room(22, "THEN SET 0 BLOCK 0 NEW 4 THEN SEND 4 SELF NEW 4 CALL TEMP 0", "4", "NIL");
        room(22, "THEN SET 0 BLOCK 0 NEW 4 THEN SEND 8 SELF NIL NEW 4 CALL TEMP 0", "8", "NIL");
        room(22, "THEN SET 0 BLOCK 0 NEW 4 THEN SEND 1 SELF CALL TEMP 0", "1", "SET 2 NEW 4");
        room(22, "THEN SET 0 BLOCK 1 NIL THEN GIVE TEMP 0 NEW 4 SEND 1 SELF", "1", "NEW 4");
        for (String ended : new String[] {"SEND 1 NEW 4", "SEND 4 SELF NEW 4", "SEND 8 SELF NIL NEW 4", "GIVE GLOBAL 1 NEW 4"}) {
            SendBench x = Benches.bench("THEN STORE 1 BLOCK 1 NIL " + ended);
            for (int s = 1; s < 9; s++) x.bind(4, s, Words.body(x, "NIL"));
            T.is("send of " + ended, x.send(0, 0, 0, 0), SendBench.OK);
            T.is("a BLOCK keeps the one in which it was made, not " + ended, x.reachable(), 2);
        }
    }

    private static void afterTheRun() {
        T.sentence("what a run gave is told also if it is not REACHABLE");
        for (String make : new String[] {"NEW 4", "BLOCK 0 NIL"}) {
            SendBench x = Benches.bench(make);
            T.is("send", x.send(0, 0, 0, 0), SendBench.OK);
            long due = make.equals("NEW 4") ? Benches.object(1) : Benches.block(1);
            T.is("result", x.result(), due);
            T.is("reachable", x.reachable(), 1);
            for (int n = 0; n < 60; n++) x.create(1, 0);
            T.is("result when its place is another's", x.result(), due);
        }
        T.sentence("a run that was ended leaves nothing REACHABLE behind but what GLOBALS lead to");
        for (String end : new String[] {"ADD NIL NIL", "WHILE NUM 1 NIL", "SEND 1 SELF"}) {
            SendBench x = Benches.bench("THEN SET 0 NEW 4 SAME NEW 4 GIVE BLOCK 1 " + end + " NEW 4");
            T.is("send", x.send(0, 0, 0, 0) > 0, true);
            T.is("reachable after " + end, x.reachable(), 1);
        }
    }

    private static void roomAgain() {
        T.sentence("room for what can still be reached alone");
        SendBench x = B.filled(24);
        Words.method(x, 4, 0, "THEN STORE 3 NIL THEN SET 0 NEW 4 WHILE LESS SET 1 ADD IF TEMP 1 TEMP 1 NUM 0 NUM 1 NUM 90 NEW 4");
        T.is("made before", x.taken(2), 24);
        T.is("90 more, one after the other", x.send(0, 0, 0, 0), SendBench.OK);
        T.is("made", x.taken(2), 24 + 1 + 89);
        T.is("reachable", x.reachable(), 1);
        SendBench z = B.filled(24);
        Words.method(z, 4, 1, "THEN PUT 0 GLOBAL 1 STORE 1 SELF");
        z.global(3, 0);
        for (int n = 1; n < 24; n++) {
            T.is("in the room of the BLOCKS", z.create(2, 4), 23 + n);
            z.send(1, 2, 0, 0);
            T.is("an OBJECT leads to its FIELDS alone", z.reachable(), n + 1);
        }
        T.is("with 24", z.create(2, 4), SendBench.NOROOM);
        SendBench w = Benches.bench("THEN SET 0 BLOCK 0 NIL SET 1 NEW 4");
        w.send(0, 0, 0, 0);
        for (int k = 1; k < 4; k++) {
            T.is("after a BLOCK and what it led to", w.create(k, 4), k + 2);
            T.is("an OBJECT keeps no ACTIVATION", w.reachable(), k + 1);
        }
        SendBench y = Benches.bench("THEN PUT 0 SELF PUT 1 NUM 7");
        Words.method(y, 4, 1, "THEN SET 0 NEW 4 STORE 0 BLOCK 0 NIL");
        int made = 1;
        for (int n = 0; n < 60; n++) {
            T.is("NUMBERS are for good", y.create(0, 4), made);
            T.is("a new OBJECT has no FIELD of another", y.field(0, 0), Benches.NIL);
            T.is("a new OBJECT is alone", y.reachable(), 1);
            y.send(n % 2, 0, 0, 0);
            made += n % 2 == 0 ? 1 : 3;
        }
    }
}
