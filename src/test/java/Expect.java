/** Compares answers with those that are due, and ends the test with exit code 1 if one was wrong. */
final class Expect {
    private final String test;
    private int asked;
    private int wrong;

    Expect(String test) {
        this.test = test;
    }

    void is(String what, long got, long due) {
        asked++;
        if (got != due) {
            tell(what + " answered " + got + ", due is " + due);
        }
    }

    void is(String what, boolean got, boolean due) {
        is(what, got ? 1 : 0, due ? 1 : 0);
    }

    /** An answer of offer or mend that is due to be this fault, with this cause. */
    void refused(String what, int got, int fault, RengaHall hall, int cause) {
        is(what, got, -fault);
        is(what + ", its cause", hall.why(), cause);
    }

    void same(String what, String got, String due) {
        asked++;
        if (!got.equals(due)) {
            tell(what + " answered\n" + got + "\ndue is\n" + due);
        }
    }

    void refuses(String what, Class<? extends RuntimeException> due, Runnable call) {
        asked++;
        try {
            call.run();
            tell(what + " threw nothing, due is " + due.getName());
        } catch (RuntimeException e) {
            if (e.getClass() != due) {
                tell(what + " threw " + e.getClass().getName() + ", due is " + due.getName());
            }
        }
    }

    void noSuch(String what, Runnable call) {
        refuses(what, IndexOutOfBoundsException.class, call);
    }

    void outOfRange(String what, Runnable call) {
        refuses(what, IllegalArgumentException.class, call);
    }

    void notNow(String what, Runnable call) {
        refuses(what, IllegalStateException.class, call);
    }

    void end() {
        System.out.println(test + ": " + asked + " answers, " + wrong + " wrong");
        if (wrong != 0) {
            System.exit(1);
        }
    }

    private void tell(String text) {
        wrong++;
        System.out.println(test + ": " + text);
    }
}
