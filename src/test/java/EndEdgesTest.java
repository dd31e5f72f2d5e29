/** The boundary cases of what ends a run, sentence by sentence: 200 STEPS, 12 ACTIVATIONS at work, and what stays. */
public final class EndEdgesTest {
    private static final Checks T = new Checks("end edges");
    private static final Benches B = new Benches(T);
    /** Selector 0 has a BODY in class 0 and in class 4, selector 1 has none: 11 has one in class 0. */
    private static final String[] BEGIN_ONE = {
        "CALL BLOCK 0 NUM 7", "GIVE BLOCK 1 NUM 7 NIL", "SEND 0 SELF", "SUPER 0", "SEND 1 SELF", "SUPER 1"};

    public static void main(String[] args) {
        stepsOfWhile();
        stepsOfActivations();
        stepsOfEachRun();
        kindBeforeLong();
        deep();
        deepTakesTheStep();
        longBeforeDeep();
        kindBeforeDeep();
        roomForActivationsAgain();
        endedAtOnce();
        T.end();
    }

    /** Selector 4 with n takes n + 2 STEPS, then it does what is asked; selector 5 with n has n + 1 at work, then that. */
    private static SendBench limits(String then) {
        SendBench x = new SendBench();
        x.cls(0, 1);
        x.create(0, 4);
        Words.method(x, 0, 0, "NUM 7");
        Words.method(x, 4, 0, "NUM 7");
        Words.method(x, 0, 11, "NUM 7");
        Words.method(x, 4, 4, "THEN SET 0 ARG 0 THEN WHILE TEMP 0 SET 0 SUB TEMP 0 NUM 1 THEN SAY NUM 1 SAY " + then);
        Words.method(x, 4, 5, "IF ARG 0 SEND 5 SELF SUB ARG 0 NUM 1 THEN SAY NUM 1 SAY " + then);
        return x;
    }

    private static void stepsOfWhile() {
        T.sentence("each time that the first E of a WHILE begins, takes one; a run has 200, if none is left: LONG");
        SendBench x = limits("NUM 7");
        for (int n : new int[] {0, 1, 2, 197, 198}) {
            T.is("send " + n, x.send(4, 0, n, 0), SendBench.OK);
            T.is("STEPS of " + n, x.taken(0), n + 2);
            B.says(x, "goes on", 1, 7);
        }
        for (int n : new int[] {199, 200, 500, -1}) {
            T.is("send " + n, x.send(4, 0, n, 0), SendBench.LONG);
            T.is("STEPS of " + n, x.taken(0), 200);
            T.is("at work", x.taken(1), 1);
            B.says(x, "does not go on");
        }
        SendBench y = Benches.bench("WHILE SAY NUM 1 SAY NUM 2");
        T.is("without end", y.send(0, 0, 0, 0), SendBench.LONG);
        T.is("199 times both", y.says(), 398);
        T.is("STEPS", y.taken(0), 200);
        for (int n = 197; n < 199; n++) {
            SendBench z = limits("WHILE NIL NIL");
            T.is("one more WHILE after " + n, z.send(4, 0, n, 0), n == 197 ? SendBench.OK : SendBench.LONG);
            T.is("STEPS", z.taken(0), 200);
            T.is("says", z.says(), n == 197 ? 2 : 1);
        }
    }

    private static void stepsOfActivations() {
        T.sentence("each ACTIVATION that begins takes one; a run has 200, if none is left: LONG");
        for (String begin : BEGIN_ONE) {
            SendBench x = limits(begin);
            T.is(begin + " with many left", x.send(4, 0, 0, 0), SendBench.OK);
            T.is(begin + " STEPS", x.taken(0), 3);
            T.is(begin + " with one left", x.send(4, 0, 197, 0), SendBench.OK);
            T.is(begin + " STEPS", x.taken(0), 200);
            T.is(begin + " at work", x.taken(1), 2);
            B.says(x, begin, 1, 7);
            T.is(begin + " with none left", x.send(4, 0, 198, 0), SendBench.LONG);
            T.is(begin + " STEPS", x.taken(0), 200);
            T.is(begin + " at work", x.taken(1), 1);
            T.is(begin + " result", x.result(), Benches.NOTHING);
            B.says(x, begin, 1);
        }
    }

    private static void stepsOfEachRun() {
        T.sentence("a run has 200");
        SendBench x = limits("NUM 7");
        for (int n = 0; n < 3; n++) {
            T.is("all of them", x.send(4, 0, 198, 0), SendBench.OK);
            T.is("one too many", x.send(4, 0, 199, 0), SendBench.LONG);
        }
        T.is("few", x.send(0, 0, 0, 0), SendBench.OK);
        T.is("few", x.taken(0), 1);
        T.sentence("a run has 200: what needs no STEP goes on with none left");
        SendBench y = limits("THEN NEW 4 THEN BLOCK 0 NIL ENSURE IF NUM 1 RETURN NUM 7 NIL NIL");
        T.is("without a STEP", y.send(4, 0, 198, 0), SendBench.OK);
        T.is("without a STEP", y.result(), 7);
    }

    private static void kindBeforeLong() {
        T.sentence("KIND is tested in CALL and GIVE before LONG");
        for (String wrong : new String[] {"CALL NIL", "CALL BLOCK 1 NIL", "GIVE NIL NIL", "GIVE BLOCK 0 NIL NIL"}) {
            SendBench x = limits(wrong);
            for (int n = 197; n < 199; n++) {
                T.is(wrong + " after " + n, x.send(4, 0, n, 0), SendBench.KIND);
                T.is(wrong + " STEPS", x.taken(0), n + 2);
            }
        }
    }

    private static void deep() {
        T.sentence("if 12 ACTIVATIONS are at work already, and another one would begin: DEEP");
        for (String begin : BEGIN_ONE) {
            SendBench x = limits(begin);
            for (int n = 0; n < 11; n++) {
                T.is(begin + " with " + (n + 1), x.send(5, 0, n, 0), SendBench.OK);
                T.is(begin + " at work", x.taken(1), n + 2);
                T.is(begin + " result", x.result(), 7);
                B.says(x, begin, 1, 7);
            }
            T.is(begin + " with 12", x.send(5, 0, 11, 0), SendBench.DEEP);
            T.is(begin + " at work", x.taken(1), 12);
            T.is(begin + " result", x.result(), Benches.NOTHING);
            B.says(x, begin, 1);
        }
        SendBench x = limits("THEN WHILE LESS SET 0 ADD IF TEMP 0 TEMP 0 NUM 0 NUM 1 NUM 9 NIL NUM 7");
        T.is("WHILE with 12", x.send(5, 0, 11, 0), SendBench.OK);
        T.is("WHILE with 12, STEPS", x.taken(0), 12 + 9);
    }

    private static void deepTakesTheStep() {
        T.sentence("DEEP (the STEP is taken)");
        for (String begin : BEGIN_ONE) {
            SendBench x = limits(begin);
            x.send(5, 0, 10, 0);
            T.is(begin + " OK", x.taken(0), 12);
            x.send(5, 0, 11, 0);
            T.is(begin + " DEEP", x.taken(0), 13);
        }
    }

    private static void longBeforeDeep() {
        T.sentence("if none is left: LONG. Then, if 12 ACTIVATIONS are at work already: DEEP");
        for (String begin : BEGIN_ONE) {
            SendBench x = limits(begin);
            Words.method(x, 4, 6, "THEN SET 0 ARG 0 THEN WHILE TEMP 0 SET 0 SUB TEMP 0 NUM 1 SEND 5 SELF NUM 10");
            T.is(begin + " with one STEP left", x.send(6, 0, 186, 0), SendBench.DEEP);
            T.is(begin + " with one STEP left", x.taken(0), 200);
            T.is(begin + " with one STEP left", x.taken(1), 12);
            T.is(begin + " with none left", x.send(6, 0, 187, 0), SendBench.LONG);
            T.is(begin + " with none left", x.taken(0), 200);
            T.is(begin + " with none left", x.taken(1), 12);
        }
    }

    private static void kindBeforeDeep() {
        T.sentence("KIND is tested in CALL and GIVE before DEEP");
        for (String wrong : new String[] {"CALL NIL", "CALL BLOCK 1 NIL", "GIVE NIL NIL", "GIVE BLOCK 0 NIL NIL"}) {
            SendBench x = limits(wrong);
            for (int n = 10; n < 12; n++) {
                T.is(wrong + " with " + (n + 1), x.send(5, 0, n, 0), SendBench.KIND);
                T.is(wrong + " STEPS", x.taken(0), n + 1);
                T.is(wrong + " at work", x.taken(1), n + 1);
            }
        }
    }

    private static void roomForActivationsAgain() {
        T.sentence("12 ACTIVATIONS are at work: those that have ended are not");
        SendBench x = limits("THEN SEND 0 SELF THEN SEND 0 SELF THEN CALL BLOCK 0 NIL SEND 0 SELF");
        T.is("one after the other", x.send(5, 0, 10, 0), SendBench.OK);
        T.is("one after the other", x.taken(1), 12);
        T.is("one after the other", x.taken(0), 15);
        SendBench y = limits("CALL GLOBAL 1");
        Words.method(y, 4, 1, "THEN STORE 1 BLOCK 0 RETURN NUM 3 SEND 5 SELF NUM 8");
        Words.method(y, 4, 2, "ADD SEND 1 SELF ADD SEND 1 SELF SEND 1 SELF");
        T.is("ended by RETURN", y.send(2, 0, 0, 0), SendBench.OK);
        T.is("ended by RETURN", y.result(), 9);
        T.is("ended by RETURN", y.taken(1), 12);
        for (int n = 0; n < 3; n++) {
            T.is("ended with the run", y.send(5, 0, 20, 0), SendBench.DEEP);
            T.is("ended with the run", y.send(2, 0, 0, 0), SendBench.OK);
        }
    }

    /** Each of the six, within an ENSURE that must not be done, after all that a run can do. */
    private static void endedAtOnce() {
        String[] wrongs = {"SEND 2 SELF", "ADD NIL NUM 1", "CALL GLOBAL 2", "WHILE NUM 1 NIL", "SEND 3 SELF", "SEND 9 SELF NIL NIL"};
        for (int due = SendBench.STRANGE; due <= SendBench.FULL; due++) {
            T.sentence("STRANGE, KIND, DEAD, LONG, DEEP, FULL end a run at once, without any ENSURE: " + due);
            SendBench x = ready();
            Words.method(x, 4, 0, "ENSURE ENSURE THEN SEND 1 SELF THEN " + wrongs[due - 1] + " SAY NUM 8 SAY NUM 9 STORE 0 NIL");
            int made = x.taken(2);
            T.is("send", x.send(0, 0, 0, 0), due);
            B.says(x, "said", 4);
            T.is("result", x.result(), Benches.NOTHING);
            T.sentence("what was done stays: " + due);
            T.is("GLOBAL 0", x.read(0), Benches.object(0));
            T.is("STORE", x.read(1), 6);
            T.is("PUT", x.field(0, 0), 5);
            T.is("BIND", x.finds(4, 8), 4);
            T.is("made", x.taken(2) > made, true);
            T.is("the next run", x.send(8, 0, 0, 0), SendBench.OK);
            T.is("the next run", x.result(), 33);
        }
        T.sentence("STRANGE .. FULL end a run without any ENSURE: also in a second one that a RETURN has under way");
        for (int due = SendBench.STRANGE; due <= SendBench.FULL; due++) {
            SendBench x = ready();
            Words.method(x, 4, 0, "ENSURE ENSURE RETURN NUM 1 THEN SEND 1 SELF " + wrongs[due - 1] + " SAY NUM 9");
            T.is("send", x.send(0, 0, 0, 0), due);
            B.says(x, "said", 4);
            T.is("result", x.result(), Benches.NOTHING);
        }
    }

    private static SendBench ready() {
        SendBench x = new SendBench();
        x.cls(0, 2);
        x.create(0, 4);
        Words.body(x, "NUM 33");
        Words.method(x, 4, 1, "THEN PUT 0 NUM 5 THEN STORE 1 NUM 6 THEN BIND 4 8 0 THEN NEW 4 SAY NUM 4");
        Words.method(x, 4, 3, "SEND 3 SELF");
        Words.method(x, 4, 9, "WHILE NUM 1 THEN SET 0 NEW 4 SEND 7 TEMP 0 TEMP 1");
        Words.method(x, 4, 7, "THEN PUT 1 GLOBAL 3 STORE 3 SELF");
        Words.method(x, 4, 4, "STORE 2 BLOCK 0 RETURN NIL");
        x.send(4, 0, 0, 0);
        return x;
    }
}
