/** Counts the answers that are not as due, and prints each of them. */
final class Due {
    private final String about;
    private int asked = 0;
    private int wrong = 0;

    Due(String about) {
        this.about = about;
    }

    void is(String call, long got, long want) {
        asked++;
        if (got != want) {
            wrong++;
            System.out.println(about + ": " + call + " answered " + got + ", due is " + want);
        }
    }

    void that(String what, boolean holds) {
        is(what, holds ? 1 : 0, 1);
    }

    int wrong() {
        return wrong;
    }

    /** Ends the program with 1 if an answer was wrong. */
    void end() {
        System.out.println(about + ": " + asked + " asked, " + wrong + " wrong");
        if (wrong != 0 || asked == 0) {
            System.exit(1);
        }
    }
}
