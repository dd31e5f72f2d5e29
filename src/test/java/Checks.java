/** Counts the answers that are not as due, and ends the test that has them with exit code 1. */
final class Checks {
    private final String name;
    private String sentence = "";
    private int wrong = 0;
    private int count = 0;
    private int sentences = 0;

    Checks(String name) {
        this.name = name;
    }

    /** The answers from here on are due because of this sentence of the document. */
    void sentence(String text) {
        sentence = " \"" + text + "\":";
        sentences++;
    }

    void is(String call, long got, long due) {
        same(call, Long.toString(got), Long.toString(due));
    }

    void is(String call, boolean got, boolean due) {
        same(call, Boolean.toString(got), Boolean.toString(due));
    }

    void same(String call, String got, String due) {
        count++;
        if (got.equals(due)) return;
        wrong++;
        System.out.println(name + ":" + sentence + " " + call + " answered " + got + ", due is " + due);
    }

    void end() {
        String of = sentences == 0 ? "" : " for " + sentences + " sentences";
        System.out.println(name + ": " + count + " answers" + of + ", " + wrong + " wrong");
        if (wrong != 0) System.exit(1);
    }
}
