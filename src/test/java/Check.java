/** Counts the answers of one test and tells those that are not as due. */
final class Check {
    private final String test;
    private int asked = 0;
    private int wrong = 0;
    private String part = "";

    Check(String test) {
        this.test = test;
    }

    /** Names what the next answers belong to. */
    void part(String name) {
        part = name;
    }

    void due(String call, long got, long want) {
        asked++;
        if (got != want) {
            wrong++;
            if (wrong <= 40) {
                System.out.println(test + ", " + part + ": " + call + " answered " + got + ", due is " + want);
            }
        }
    }

    void holds(String what, boolean truth) {
        due(what, truth ? 1 : 0, 1);
    }

    boolean allRight() {
        return wrong == 0;
    }

    /** Ends the test: exit code 1 if an answer was wrong. */
    void end() {
        System.out.println(test + ": " + asked + " answers, " + wrong + " not as due");
        if (wrong != 0) {
            System.exit(1);
        }
    }
}
