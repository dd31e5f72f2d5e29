/** The calls that stand in README.md, with what it says of them. */
public final class ReadmeTest {
    private static final Checks T = new Checks("readme");

    public static void main(String[] args) {
        SendBench x = new SendBench();
        firstProgram(x);
        wayOut(x);
        wrongDraft(x);
        T.end();
    }

    private static void firstProgram(SendBench x) {
        int c = x.cls(0, 1);
        T.is("cls", c, 4);
        x.token(18, 0);
        x.token(3, 0);
        x.token(0, 1);
        int b = x.body();
        T.is("body", b, 0);
        T.is("bind", x.bind(c, 4, b), true);
        T.is("create", x.create(0, c), 0);
        T.is("send", x.send(4, 0, 41, 0), SendBench.OK);
        T.is("result", x.result(), 42);
    }

    private static void wayOut(SendBench x) {
        x.token(27, 0);
        x.token(16, 0);
        x.token(14, 0);
        x.token(12, 0);
        x.token(17, 0);
        x.token(0, 7);
        x.token(0, 8);
        x.token(26, 0);
        x.token(0, 9);
        T.is("bind", x.bind(4, 0, x.body()), true);
        T.is("send", x.send(0, 0, 0, 0), SendBench.OK);
        T.is("result", x.result(), 7);
        T.is("says", x.says(), 1);
        T.is("said", x.said(0), 9);
        T.is("taken", x.taken(0), 2);
    }

    private static void wrongDraft(SendBench x) {
        x.token(18, 0);
        x.token(0, 1);
        T.is("body", x.body(), SendBench.SHAPE);
        T.is("place", x.place(), 2);
    }
}
