/** What the tests share: it compares answers, prints those that are not as due, and sets the exit code. */
final class Checks {
    private int wrong = 0;
    private int made = 0;
    private String title = "";

    /** All that is compared from now on is printed under this title. */
    void begin(String itsTitle) {
        title = itsTitle + ": ";
    }

    void same(String call, long got, long due) {
        made++;
        if (got != due) {
            wrong++;
            System.out.println(title + call + " answered " + got + ", due is " + due);
        }
    }

    void yes(String call, boolean got) {
        same(call, got ? 1 : 0, 1);
    }

    void no(String call, boolean got) {
        same(call, got ? 1 : 0, 0);
    }

    int wrong() {
        return wrong;
    }

    int made() {
        return made;
    }

    void end() {
        System.out.println(made + " answers, " + wrong + " not as due");
        if (wrong != 0 || made == 0) {
            System.exit(1);
        }
    }
}
