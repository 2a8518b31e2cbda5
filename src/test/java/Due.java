/** Counts the answers that are not the ones that are due, and prints each. */
final class Due {
    private final String test;
    private String sentence = "";
    private int sentences;
    private int wrong;
    private int asked;

    Due(String test) {
        this.test = test;
    }

    /** The answers that the run asks for are told as those of this sentence of the document. */
    void sentence(String words, Runnable run) {
        int before = asked;
        sentence = "\"" + words + "\": ";
        run.run();
        holds("something is asked", asked > before);
        sentence = "";
        sentences++;
    }

    void is(String what, long got, long want) {
        asked++;
        if (got != want) {
            wrong++;
            System.out.println(test + ": " + sentence + what + " answered " + got + ", due is " + want);
        }
    }

    void is(String what, boolean got, boolean want) {
        is(what, got ? 1L : 0L, want ? 1L : 0L);
    }

    void holds(String what, boolean got) {
        is(what, got, true);
    }

    boolean anyWrong() {
        return wrong != 0;
    }

    void end() {
        String of = sentences > 0 ? " of " + sentences + " sentences" : "";
        System.out.println(test + ": " + asked + " answers" + of + ", " + wrong + " not as due");
        if (wrong != 0) {
            System.exit(1);
        }
    }
}
