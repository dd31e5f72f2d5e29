import java.util.ArrayDeque;
import java.util.ArrayList;
import java.util.Deque;
import java.util.IdentityHashMap;
import java.util.List;
import java.util.Map;

/**
 * The document once more, in the Java that the class itself must not use: trees, recursion, exceptions and objects that
 * the Java machine collects. The two have nothing in common, so what both answer is less likely to be wrong.
 */
final class Model {
    static final int MAX_THINGS = 24;
    private static final Object NIL = new Object();
    private static final int[] ARITY = {
        0, 0, 0, 0, 0, 1, 0, 1, 0, 1, -1, -2, 1, 0, 1, 2, 2, 1, 2, 2, 2, 2, 2, 3, 2, 0, 1, 2, 0, 1};

    private static final class Node {
        int kind;
        int value;
        final List<Node> kids = new ArrayList<>();
    }

    private static class Thing {
        int number;
    }

    private static final class Obj extends Thing {
        int c;
        Object[] fields;
    }

    private static final class Block extends Thing {
        Node node;
        Act made;
    }

    private static final class Act {
        Act home;
        Act inside;
        Object self = NIL;
        final Object[] args = {NIL, NIL};
        final Object[] temps = {NIL, NIL, NIL};
        Object param = NIL;
        int foundIn;
        boolean working = true;
    }

    private static final class Stop extends RuntimeException {
        private static final long serialVersionUID = 1;
        final int code;

        Stop(int code) {
            super(null, null, false, false);
            this.code = code;
        }
    }

    private static final class Back extends RuntimeException {
        private static final long serialVersionUID = 1;
        final transient Act home;
        final transient Object value;

        Back(Act home, Object value) {
            super(null, null, false, false);
            this.home = home;
            this.value = value;
        }
    }

    private static final class Wrong extends RuntimeException {
        private static final long serialVersionUID = 1;
        final int at;

        Wrong(int at) {
            super(null, null, false, false);
            this.at = at;
        }
    }

    private final List<Integer> parents = new ArrayList<>(List.of(-1, 0, 0, 0));
    private final List<Integer> sizes = new ArrayList<>(List.of(0, 0, 0, 0));
    private final Map<Integer, Integer> methods = new java.util.HashMap<>();
    private final List<Node> bodies = new ArrayList<>();
    private List<int[]> draft = new ArrayList<>();
    private int wrong = -1;
    private final Object[] globals = {NIL, NIL, NIL, NIL};
    private int made = 0;

    private final Deque<Act> working = new ArrayDeque<>();
    private final List<Object> waiting = new ArrayList<>();
    private int steps = 0;
    private int most = 0;
    private List<Long> said = new ArrayList<>();
    private Object result = null;

    /** How often a RETURN came to an ENSURE, and how often another RETURN came out of its second one. */
    static int ensured = 0;
    static int replaced = 0;

    int cls(int parent, int fields) {
        boolean there = parent == 0 || parent > 3 && parent < parents.size();
        if (!there || fields < 0 || (long) sizes.get(parent) + fields > 4) return -1;
        if (parents.size() == 10) return -3;
        parents.add(parent);
        sizes.add(sizes.get(parent) + fields);
        return parents.size() - 1;
    }

    int token(int kind, int value) {
        if (kind < 0 || kind > 29) return -1;
        int[] limit = {0, 0, 0, 2, 3, 3, 4, 4, 4, 4, 12, 12, 2, 3, 0, 0, 0, 0, 0, 0, 0, 0, 0, 0, 0, 10, 0, 0, 2560, 0};
        if (limit[kind] > 0 && (value < 0 || value >= limit[kind])) return -1;
        if (kind == 28 && (value % 16 > 11 || value / 16 % 16 > 11)) return -1;
        if (draft.size() == 32) return -3;
        draft.add(new int[] {kind, value});
        return draft.size();
    }

    int wipe() {
        int had = draft.size();
        draft = new ArrayList<>();
        return had;
    }

    int body() {
        if (bodies.size() == 12) return -3;
        List<int[]> tokens = draft;
        draft = new ArrayList<>();
        wrong = -1;
        try {
            int[] at = {0};
            Node node = parse(tokens, at, new ArrayList<>());
            if (at[0] < tokens.size()) throw new Wrong(at[0]);
            bodies.add(node);
            return bodies.size() - 1;
        } catch (Wrong e) {
            wrong = e.at;
            return -2;
        }
    }

    private Node parse(List<int[]> tokens, int[] at, List<Integer> around) {
        if (at[0] == tokens.size()) throw new Wrong(at[0]);
        Node node = new Node();
        int here = at[0]++;
        node.kind = tokens.get(here)[0];
        node.value = tokens.get(here)[1];
        int v = node.value;
        if (node.kind == 12 && around.size() == 3) throw new Wrong(here);
        if (node.kind == 13 && (v >= around.size() || around.get(around.size() - 1 - v) != 1)) throw new Wrong(here);
        if (node.kind == 25 && (v >= parents.size() || v > 0 && v < 4)) throw new Wrong(here);
        if (node.kind == 28) {
            if (v / 256 >= parents.size() || v % 16 >= bodies.size()) throw new Wrong(here);
            if (argsUsed(bodies.get(v % 16)) > v / 16 % 16 / 4) throw new Wrong(here);
        }
        int kids = ARITY[node.kind];
        if (kids < 0) kids = v / 4 + (node.kind == 10 ? 1 : 0);
        List<Integer> inner = around;
        if (node.kind == 12) {
            inner = new ArrayList<>(around);
            inner.add(v);
        }
        for (int i = 0; i < kids; i++) node.kids.add(parse(tokens, at, inner));
        return node;
    }

    private static int argsUsed(Node node) {
        int used = node.kind == 3 ? node.value + 1 : 0;
        for (Node kid : node.kids) used = Math.max(used, argsUsed(kid));
        return used;
    }

    int place() {
        return wrong;
    }

    boolean bind(int c, int s, int b) {
        if (c < 0 || c >= parents.size() || s < 0 || s > 11 || b < -1 || b >= bodies.size()) return false;
        if (b >= 0 && argsUsed(bodies.get(b)) > s / 4) return false;
        if (b < 0) methods.remove(12 * c + s);
        else methods.put(12 * c + s, b);
        return true;
    }

    boolean global(int k, int v) {
        if (k < 0 || k > 3) return false;
        globals[k] = v;
        return true;
    }

    int create(int k, int c) {
        if (k < 0 || k > 3 || c < 0 || c >= parents.size() || c > 0 && c < 4) return -1;
        if (reachable() >= MAX_THINGS) return -3;
        globals[k] = object(c);
        return made - 1;
    }

    private Obj object(int c) {
        Obj o = new Obj();
        o.number = made++;
        o.c = c;
        o.fields = new Object[sizes.get(c)];
        java.util.Arrays.fill(o.fields, NIL);
        return o;
    }

    int send(int s, int k, int a, int b) {
        if (s < 0 || s > 11 || k < 0 || k > 3) return -1;
        steps = 0;
        most = 0;
        said = new ArrayList<>();
        result = null;
        try {
            List<Object> args = new ArrayList<>();
            if (s >= 4) args.add(a);
            if (s >= 8) args.add(b);
            Object v = message(s, classOf(globals[k]), globals[k], args, 0);
            result = v;
            return 0;
        } catch (Stop e) {
            return e.code;
        } finally {
            for (Act act : working) act.working = false;
            working.clear();
            waiting.clear();
        }
    }

    private int found(int c, int s) {
        int in = c;
        while (in >= 0 && !methods.containsKey(12 * in + s)) in = parents.get(in);
        return in;
    }

    private int classOf(Object v) {
        if (v instanceof Integer) return 1;
        if (v == NIL) return 2;
        if (v instanceof Block) return 3;
        return ((Obj) v).c;
    }

    private Object message(int s, int lookIn, Object self, List<Object> args, int waitingBefore) {
        int in = found(lookIn, s);
        int used = s;
        List<Object> given = args;
        if (in < 0) {
            in = found(classOf(self), 11);
            used = 11;
            given = new ArrayList<>();
            given.add(s);
            given.add(args.isEmpty() ? NIL : args.get(0));
        }
        if (in < 0) throw new Stop(1);
        Act act = new Act();
        act.home = act;
        act.self = self;
        for (int i = 0; i < given.size(); i++) act.args[i] = given.get(i);
        act.foundIn = in;
        return perform(act, bodies.get(methods.get(12 * in + used)), waitingBefore);
    }

    private Object perform(Act act, Node e, int waitingBefore) {
        step();
        if (working.size() == 12) throw new Stop(5);
        cut(waitingBefore);
        working.push(act);
        most = Math.max(most, working.size());
        Object v;
        try {
            v = eval(e, act);
        } catch (Back back) {
            end(act, waitingBefore);
            if (back.home != act) throw back;
            return back.value;
        }
        end(act, waitingBefore);
        return v;
    }

    private void end(Act act, int waitingBefore) {
        working.pop();
        act.working = false;
        cut(waitingBefore);
    }

    private void cut(int size) {
        while (waiting.size() > size) waiting.remove(waiting.size() - 1);
    }

    private void step() {
        if (steps == 200) throw new Stop(4);
        steps++;
    }

    private Object eval(Node n, Act act) {
        int before = waiting.size();
        Act home = act.home;
        switch (n.kind) {
            case 0: return n.value;
            case 1: return NIL;
            case 2: return home.self;
            case 3: return home.args[n.value];
            case 4: return home.temps[n.value];
            case 5: return home.temps[n.value] = eval(n.kids.get(0), act);
            case 6: return fieldsFor(home.self, n.value)[n.value];
            case 7: {
                Object v = eval(n.kids.get(0), act);
                return fieldsFor(home.self, n.value)[n.value] = v;
            }
            case 8: return globals[n.value];
            case 9: return globals[n.value] = eval(n.kids.get(0), act);
            case 10: {
                List<Object> all = operands(n, act);
                return message(n.value, classOf(all.get(0)), all.get(0), all.subList(1, all.size()), before);
            }
            case 11: {
                List<Object> all = operands(n, act);
                int lookIn = home.foundIn == 0 ? -1 : parents.get(home.foundIn);
                return message(n.value, lookIn, home.self, all, before);
            }
            case 12: {
                if (reachable() >= MAX_THINGS) throw new Stop(6);
                Block b = new Block();
                b.number = made++;
                b.node = n;
                b.made = act;
                return b;
            }
            case 13: {
                Act a = act;
                for (int i = 0; i < n.value; i++) a = a.inside;
                return a.param;
            }
            case 14:
            case 15: {
                List<Object> all = operands(n, act);
                if (!(all.get(0) instanceof Block)) throw new Stop(2);
                Block b = (Block) all.get(0);
                if (b.node.value != n.kind - 14) throw new Stop(2);
                Act inner = new Act();
                inner.inside = b.made;
                inner.home = b.made.home;
                if (n.kind == 15) inner.param = all.get(1);
                return perform(inner, b.node.kids.get(0), before);
            }
            case 16:
                eval(n.kids.get(0), act);
                return eval(n.kids.get(1), act);
            case 17: {
                Object v = eval(n.kids.get(0), act);
                if (!home.working) throw new Stop(3);
                throw new Back(home, v);
            }
            case 18:
            case 19:
            case 20:
            case 21: {
                List<Object> all = operands(n, act);
                cut(before);
                if (!(all.get(0) instanceof Integer) || !(all.get(1) instanceof Integer)) throw new Stop(2);
                int a = (Integer) all.get(0);
                int b = (Integer) all.get(1);
                return n.kind == 18 ? a + b : n.kind == 19 ? a - b : n.kind == 20 ? a * b : a < b ? 1 : 0;
            }
            case 22: {
                List<Object> all = operands(n, act);
                cut(before);
                return all.get(0) == all.get(1) || all.get(0) instanceof Integer && all.get(0).equals(all.get(1)) ? 1 : 0;
            }
            case 23: return eval(n.kids.get(isSo(eval(n.kids.get(0), act)) ? 1 : 2), act);
            case 24:
                while (true) {
                    step();
                    if (!isSo(eval(n.kids.get(0), act))) return NIL;
                    eval(n.kids.get(1), act);
                }
            case 25:
                if (reachable() >= MAX_THINGS) throw new Stop(6);
                return object(n.value);
            case 26: {
                Object v = eval(n.kids.get(0), act);
                said.add(show(v));
                return v;
            }
            case 27: return ensure(n, act);
            case 28:
                methods.put(12 * (n.value / 256) + n.value / 16 % 16, n.value % 16);
                return NIL;
            default: return classOf(eval(n.kids.get(0), act));
        }
    }

    private Object ensure(Node n, Act act) {
        int before = waiting.size();
        Object v;
        try {
            v = eval(n.kids.get(0), act);
        } catch (Back back) {
            cut(before);
            waiting.add(back.value);
            ensured++;
            try {
                eval(n.kids.get(1), act);
            } catch (Back other) {
                replaced++;
                throw other;
            }
            cut(before);
            throw back;
        }
        waiting.add(v);
        eval(n.kids.get(1), act);
        cut(before);
        return v;
    }

    /** They wait from when they are worked out, until who asked for them cuts them off. */
    private List<Object> operands(Node n, Act act) {
        List<Object> all = new ArrayList<>();
        for (Node kid : n.kids) {
            Object v = eval(kid, act);
            all.add(v);
            waiting.add(v);
        }
        return all;
    }

    private Object[] fieldsFor(Object self, int j) {
        if (!(self instanceof Obj) || j >= ((Obj) self).fields.length) throw new Stop(2);
        return ((Obj) self).fields;
    }

    private static boolean isSo(Object v) {
        return v != NIL && !(v instanceof Integer && (Integer) v == 0);
    }

    private static long show(Object v) {
        if (v == null) return -10000000000L;
        if (v == NIL) return 10000000000L;
        if (v instanceof Integer) return (Integer) v;
        return (v instanceof Obj ? 20000000000L : 30000000000L) + ((Thing) v).number;
    }

    int reachable() {
        Map<Object, Boolean> seen = new IdentityHashMap<>();
        for (Object v : globals) look(v, seen);
        for (Act a : working) look(a, seen);
        for (Object v : waiting) look(v, seen);
        int count = 0;
        for (Object o : seen.keySet()) {
            if (o instanceof Thing) count++;
        }
        return count;
    }

    private static void look(Object o, Map<Object, Boolean> seen) {
        if (o == null || o == NIL || o instanceof Integer || seen.put(o, true) != null) return;
        if (o instanceof Block) look(((Block) o).made, seen);
        if (o instanceof Obj) {
            for (Object v : ((Obj) o).fields) look(v, seen);
        }
        if (o instanceof Act) {
            Act a = (Act) o;
            look(a.self, seen);
            for (Object v : a.args) look(v, seen);
            for (Object v : a.temps) look(v, seen);
            look(a.param, seen);
            look(a.inside, seen);
        }
    }

    long result() {
        return show(result);
    }

    long read(int k) {
        return show(k < 0 || k > 3 ? null : globals[k]);
    }

    long field(int k, int j) {
        if (k < 0 || k > 3 || !(globals[k] instanceof Obj)) return show(null);
        Obj o = (Obj) globals[k];
        return show(j < 0 || j >= o.fields.length ? null : o.fields[j]);
    }

    int finds(int c, int s) {
        return c < 0 || c >= parents.size() || s < 0 || s > 11 ? -1 : found(c, s);
    }

    int says() {
        return said.size();
    }

    long said(int k) {
        return k < 0 || k >= 20 || k >= said.size() ? show(null) : said.get(k);
    }

    int taken(int what) {
        int[] all = {steps, most, made, parents.size(), bodies.size()};
        return what < 0 || what > 4 ? -1 : all[what];
    }
}
