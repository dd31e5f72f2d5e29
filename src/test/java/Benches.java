import java.util.ArrayList;
import java.util.List;
import java.util.function.Consumer;
import java.util.function.ToLongFunction;

/** Benches that are ready for a test, and what is asked of them again and again. */
final class Benches {
    static final long NIL = SendBench.NIL;
    static final long NOTHING = -SendBench.NIL;
    private final Checks t;

    Benches(Checks t) {
        this.t = t;
    }

    static long object(int number) {
        return 2 * NIL + number;
    }

    static long block(int number) {
        return 3 * NIL + number;
    }

    /** A bench whose class 4 has two FIELDS, with an OBJECT of it as GLOBAL 0 and the program as selector 0. */
    static SendBench bench(String program) {
        SendBench x = new SendBench();
        x.cls(0, 2);
        x.create(0, 4);
        Words.method(x, 4, 0, program);
        return x;
    }

    void gives(String program, long due) {
        SendBench x = bench(program);
        t.is("send of " + program, x.send(0, 0, 0, 0), SendBench.OK);
        t.is("result of " + program, x.result(), due);
    }

    void ends(String program, int due) {
        SendBench x = bench(program);
        t.is("send of " + program, x.send(0, 0, 0, 0), due);
        t.is("result of " + program, x.result(), NOTHING);
    }

    void says(SendBench x, String name, long... due) {
        t.is(name + " says", x.says(), due.length);
        for (int k = 0; k < due.length; k++) t.is(name + " said " + k, x.said(k), due[k]);
        t.is(name + " said no more", x.said(due.length), NOTHING);
    }

    /** A bench whose class 4 has two FIELDS, with an OBJECT of it as GLOBAL 0 and a list of BLOCKS at GLOBAL 3. */
    SendBench filled(int reachable) {
        SendBench x = new SendBench();
        x.cls(0, 2);
        x.create(0, 4);
        Words.method(x, 4, 3, "THEN SET 0 GLOBAL 3 STORE 3 BLOCK 0 TEMP 0");
        for (int n = 1; n < reachable; n++) x.send(3, 0, 0, 0);
        t.is("filled", x.reachable(), reachable);
        return x;
    }

    /** A bench on which everything that can be told is something else than on a new one. */
    static void rich(SendBench x) {
        x.cls(0, 2);
        x.cls(4, 1);
        x.create(0, 5);
        x.create(1, 4);
        x.global(2, -7);
        Words.method(x, 4, 4, "THEN SAY PUT 0 SELF THEN PUT 1 SAY ARG 0 THEN STORE 3 BLOCK 0 TEMP 0 ADD ARG 0 NUM 1");
        Words.method(x, 0, 0, "CALL GLOBAL 3");
        x.send(4, 0, 20, 0);
        Words.body(x, "ADD NUM 1 NUM 2 NIL");
        Words.draft(x, "ADD NUM 1");
    }

    /** The refused call on one of two benches that are alike: afterwards they must still be alike in all that is told. */
    void unchanged(String call, Consumer<SendBench> build, ToLongFunction<SendBench> refused, long due) {
        SendBench asked = new SendBench();
        SendBench other = new SendBench();
        build.accept(asked);
        build.accept(other);
        t.is(call, refused.applyAsLong(asked), due);
        t.same("after " + call + " what is told", told(asked), told(other));
        t.same("after " + call + " what comes next", goOn(asked), goOn(other));
    }

    static String told(SendBench x) {
        List<Long> all = new ArrayList<>();
        all.add(x.result());
        all.add((long) x.place());
        all.add((long) x.reachable());
        all.add((long) x.says());
        for (int what = 0; what < 5; what++) all.add((long) x.taken(what));
        for (int k = 0; k < 4; k++) {
            all.add(x.read(k));
            for (int j = 0; j < 4; j++) all.add(x.field(k, j));
        }
        for (int k = 0; k < 3; k++) all.add(x.said(k));
        for (int c = 0; c < 10; c++) {
            for (int s = 0; s < 12; s++) all.add((long) x.finds(c, s));
        }
        return all.toString();
    }

    /** What the draft holds, which numbers come next and how much room there is can be seen only by going on. */
    static String goOn(SendBench x) {
        List<Long> all = new ArrayList<>();
        all.add((long) x.token(0, 5));
        all.add((long) x.body());
        all.add((long) x.place());
        all.add((long) x.wipe());
        int latest = x.taken(4) - 1;
        all.add(x.bind(5, 0, latest) ? 1L : 0L);
        all.add((long) x.send(0, 0, 3, 4));
        all.add(x.result());
        all.add((long) x.taken(0));
        for (int c = 4; c < 10; c++) {
            all.add((long) x.create(1, c));
            for (int j = 0; j < 4; j++) all.add(x.field(1, j));
        }
        all.add((long) x.cls(4, 2));
        all.add((long) x.create(2, 4));
        all.add(x.read(2));
        all.add((long) x.reachable());
        return all.toString();
    }
}
