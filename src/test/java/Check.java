/** Counts the answers of one test, prints those that are not as due, and ends the test. */
final class Check {
    private final String test;
    private String section = "";
    private int answers;
    private int wrong;

    Check(String test) {
        this.test = test;
    }

    void section(String name) {
        section = name;
    }

    void due(String call, long got, long want) {
        answers++;
        if (got != want) {
            wrong++;
            System.out.println(test + ", " + section + ": " + call + " answered " + got + ", due is " + want);
        }
    }

    void holds(String what, boolean does) {
        answers++;
        if (!does) {
            wrong++;
            System.out.println(test + ", " + section + ": " + what + " does not hold");
        }
    }

    boolean isRight() {
        return wrong == 0;
    }

    void close() {
        System.out.println(test + ": " + answers + " answers, " + wrong + " not as due");
        if (wrong != 0) {
            System.exit(1);
        }
    }
}
