/** Counts and prints the answers that are not as due. */
final class Check {
    private final String title;
    private int answers = 0;
    private int wrong = 0;

    Check(String title) {
        this.title = title;
    }

    void due(String call, long got, long want) {
        answers++;
        if (got != want) {
            wrong++;
            System.out.println(title + ": " + call + " answered " + got + ", due is " + want);
        }
    }

    void that(String what, boolean holds) {
        due(what, holds ? 1 : 0, 1);
    }

    /** Ends the program, with exit code 1 if an answer was wrong or there was none at all. */
    void end() {
        System.out.println(title + ": " + answers + " answers, " + wrong + " not as due");
        if (wrong != 0 || answers == 0) {
            System.exit(1);
        }
    }
}
