/** Counts the answers of a test and prints each one that is not as due. */
final class Answers {
    private int seen = 0;
    private int wrong = 0;
    private String about = "";

    void about(String what) {
        about = what;
    }

    void due(String call, long got, long want) {
        seen++;
        if (got != want) {
            wrong++;
            System.out.println(about + ": " + call + " answered " + got + ", due is " + want);
        }
    }

    void holds(String what, boolean truth) {
        seen++;
        if (!truth) {
            wrong++;
            System.out.println(about + ": it does not hold that " + what);
        }
    }

    int wrong() {
        return wrong;
    }

    void end(String test) {
        System.out.println(test + ": " + seen + " answers, " + wrong + " not as due");
        if (wrong != 0 || seen == 0) {
            System.exit(1);
        }
    }
}
