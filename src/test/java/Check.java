/** Counts the answers that are not as due, and ends a test's run with them. */
final class Check {
    interface Call {
        long answer();
    }

    interface Deed {
        void act();
    }

    private static final int MOST_TOLD = 40;

    private final String name;
    private int checks;
    private int wrong;

    Check(String name) {
        this.name = name;
    }

    static SmokeZones house(int... areasAndHeights) {
        SmokeZones x = new SmokeZones();
        for (int i = 0; i < areasAndHeights.length; i += 2) {
            x.room(areasAndHeights[i], areasAndHeights[i + 1]);
        }
        return x;
    }

    void due(String what, long got, long want) {
        checks++;
        if (got != want) {
            tellWrong(what + " answered " + got + ", due is " + want);
        }
    }

    void yes(String what, boolean holds) {
        checks++;
        if (!holds) {
            tellWrong(what);
        }
    }

    void answers(String what, long want, Call call) {
        try {
            due(what, call.answer(), want);
        } catch (RuntimeException e) {
            checks++;
            tellWrong(what + " threw " + e + ", due is " + want);
        }
    }

    void argument(String what, Deed deed) {
        refused(what, IllegalArgumentException.class, deed);
    }

    void state(String what, Deed deed) {
        refused(what, IllegalStateException.class, deed);
    }

    void fine(String what, Deed deed) {
        refused(what, null, deed);
    }

    /** The class must be the very one: a class below it would be the machine's. */
    private void refused(String what, Class<?> due, Deed deed) {
        checks++;
        Class<?> got = null;
        try {
            deed.act();
        } catch (RuntimeException e) {
            got = e.getClass();
        }
        if (got != due) {
            tellWrong(what + " threw " + got + ", due is " + due);
        }
    }

    /** Not more than some of them: one fault can show in many thousand answers. */
    private void tellWrong(String text) {
        wrong++;
        if (wrong <= MOST_TOLD) {
            System.out.println(name + ": " + text);
        }
    }

    void end() {
        System.out.println(name + ": " + checks + " checks, " + wrong + " wrong");
        if (wrong != 0) {
            System.exit(1);
        }
    }
}
