/** Counts the checks of one test, prints those that fail, and ends the program with 1 if there were any. */
final class Checks {
    interface Call {
        void make();
    }

    private final String test;
    private int made = 0;
    private int wrong = 0;

    Checks(String test) {
        this.test = test;
    }

    void due(String what, long answered, long want) {
        made++;
        if (answered != want) {
            report(what + " answered " + answered + ", due is " + want);
        }
    }

    void due(String what, boolean answered, boolean want) {
        made++;
        if (answered != want) {
            report(what + " answered " + answered + ", due is " + want);
        }
    }

    void dueFloat(String what, float answered, float want) {
        made++;
        if (answered != want) {
            report(what + " answered " + answered + ", due is " + want);
        }
    }

    void dueThrow(String what, Class<? extends RuntimeException> want, Call call) {
        made++;
        try {
            call.make();
        } catch (RuntimeException thrown) {
            if (thrown.getClass() != want) {
                report(what + " throws " + thrown + ", due is " + want.getName());
            }
            return;
        }
        report(what + " throws nothing, due is " + want.getName());
    }

    void that(String what, boolean holds) {
        made++;
        if (!holds) {
            report(what);
        }
    }

    private void report(String text) {
        wrong++;
        if (wrong <= 40) {
            System.out.println(test + ": " + text);
        }
    }

    void end() {
        System.out.println(test + ": " + made + " checks made, " + wrong + " not as due");
        if (wrong != 0 || made == 0) {
            System.exit(1);
        }
    }
}
