import java.util.function.LongSupplier;

/** Counts what a test program finds, and ends it with exit code 1 if an answer was wrong. */
final class Checks {
    static final Class<? extends RuntimeException> INDEX = IndexOutOfBoundsException.class;
    static final Class<? extends RuntimeException> ARGUMENT = IllegalArgumentException.class;
    static final Class<? extends RuntimeException> STATE = IllegalStateException.class;

    private static final int TICKS_ALIKE = 20;

    private int made;
    private int wrong;

    void same(String what, long got, long due) {
        made++;
        if (got != due) {
            wrong++;
            System.out.println(what + " answered " + got + ", due is " + due);
        }
    }

    void sameDouble(String what, double got, double due) {
        made++;
        if (got != due) {
            wrong++;
            System.out.println(what + " answered " + got + ", due is " + due);
        }
    }

    void yes(String what, boolean got) {
        same(what, got ? 1 : 0, 1);
    }

    void no(String what, boolean got) {
        same(what, got ? 1 : 0, 0);
    }

    /** The call must throw just this kind, and leave all that can be asked of the bay as it was. */
    void refused(String what, SemaphoreBay bay, Class<? extends RuntimeException> kind, LongSupplier call) {
        made++;
        String before = Picture.of(bay);
        String thrown = "nothing";
        try {
            call.getAsLong();
        } catch (RuntimeException e) {
            thrown = e.getClass().getName();
        }
        if (!thrown.equals(kind.getName())) {
            wrong++;
            System.out.println(what + " threw " + thrown + ", due is " + kind.getName());
        }
        if (!before.equals(Picture.of(bay))) {
            wrong++;
            System.out.println(what + " threw and changed something");
        }
    }

    /** The call must throw nothing. */
    void accepted(String what, LongSupplier call) {
        made++;
        try {
            call.getAsLong();
        } catch (RuntimeException e) {
            wrong++;
            System.out.println(what + " threw " + e.getClass().getName() + ", due is nothing");
        }
    }

    /** Two bays must look the same now, and as time goes by. */
    void alike(String what, SemaphoreBay bay, SemaphoreBay twin) {
        for (int gone = 0; gone <= TICKS_ALIKE; gone++) {
            made++;
            if (!Picture.of(bay).equals(Picture.of(twin))) {
                wrong++;
                System.out.println(what + ": not alike " + gone + " ticks later");
                return;
            }
            bay.tick(1);
            twin.tick(1);
        }
        same(what + ": order", bay.order(0, 0), twin.order(0, 0));
    }

    void end(String name) {
        System.out.println(name + ": " + made + " checks, " + wrong + " wrong");
        if (made == 0 || wrong > 0) {
            System.exit(1);
        }
    }
}
