/** What the tests share: it compares answers with those that are due, and counts the wrong ones. */
final class Check {
    interface Call {
        Object run();
    }

    static final Class<? extends RuntimeException> INDEX = IndexOutOfBoundsException.class;
    static final Class<? extends RuntimeException> ARGUMENT = IllegalArgumentException.class;
    static final Class<? extends RuntimeException> STATE = IllegalStateException.class;

    private static int compared = 0;
    private static int wrong = 0;

    private Check() {
    }

    static void due(String what, long got, long want) {
        compared++;
        if (got != want) {
            tell(what + " answered " + got + ", due is " + want);
        }
    }

    static void due(String what, boolean got, boolean want) {
        due(what, got ? 1 : 0, want ? 1 : 0);
    }

    static void dueExactly(String what, double got, double want) {
        compared++;
        if (got != want) {
            tell(what + " answered " + got + ", due is " + want);
        }
    }

    /** The offs of a pan, from note 0 to 7. */
    static void offs(String what, Panyard yard, int pan, int... want) {
        for (int note = 0; note < 8; note++) {
            due(what + ", off of note " + note, yard.off(pan, note), want[note]);
        }
    }

    /** The call throws just that exception, by a throw of the class, and changes nothing. */
    static void refused(String what, Panyard yard, Class<? extends RuntimeException> kind, Call call) {
        compared++;
        long before = yard.digest();
        Class<?> thrown = null;
        try {
            call.run();
        } catch (RuntimeException e) {
            thrown = e.getClass();
            if (!e.getStackTrace()[0].getClassName().startsWith("Panyard")) {
                tell(what + " was thrown by the machine: " + e);
            }
        }
        if (thrown != kind) {
            tell(what + " threw " + thrown + ", due is " + kind);
        }
        if (yard.digest() != before) {
            tell(what + " changed something");
        }
    }

    static void tell(String text) {
        wrong++;
        System.out.println("wrong: " + text);
    }

    static void count() {
        compared++;
    }

    static void finish() {
        System.out.println(compared + " answers compared, " + wrong + " wrong");
        if (wrong > 0 || compared == 0) {
            System.exit(1);
        }
    }
}
