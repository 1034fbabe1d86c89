/** What all tests share: counts answers that are as due and answers that are not. */
final class Checks {
    private final String title;
    private int asDue = 0;
    private int wrong = 0;

    Checks(String title) {
        this.title = title;
    }

    void due(String call, long got, long want) {
        if (got == want) {
            asDue++;
            return;
        }
        wrong++;
        if (wrong <= 40) {
            System.out.println(title + ": " + call + " answered " + got + ", due is " + want);
        }
    }

    void holds(String what, boolean does) {
        due(what, does ? 1 : 0, 1);
    }

    int wrongSoFar() {
        return wrong;
    }

    /** Ends the program with exit code 1 if an answer was not as due. */
    void close() {
        System.out.println(title + ": " + asDue + " as due, " + wrong + " not");
        if (wrong != 0 || asDue == 0) {
            System.exit(1);
        }
    }
}
