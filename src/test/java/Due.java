/** Counts the answers of one test that are not as due, and ends the test by them. */
final class Due {
    private final String test;
    private String sentence = "";
    private int asked;
    private int wrong;

    Due(String test) {
        this.test = test;
    }

    /** The sentence of the document that the answers asked from here on are due by. */
    void by(String promise, String words) {
        sentence = promise + " '" + words + "': ";
    }

    void is(String call, long got, long want) {
        asked++;
        if (got != want) tell(call + " answered " + got + ", due is " + want);
    }

    void is(String call, String got, String want) {
        asked++;
        if (!got.equals(want)) tell(call + " is\n  " + got + ", due is\n  " + want);
    }

    void holds(String what, boolean so) {
        asked++;
        if (!so) tell("not so: " + what);
    }

    boolean anyWrong() {
        return wrong != 0;
    }

    void end() {
        System.out.println(test + ": " + asked + " answers, " + wrong + " not as due");
        if (wrong != 0) {
            System.exit(1);
        }
    }

    private void tell(String what) {
        wrong++;
        System.out.println(test + ": " + sentence + what);
    }
}
