/** Counts what is not as due, and ends a test. */
public final class Checks {
    private final String name;
    private int done;
    private int wrong;

    public Checks(String name) {
        this.name = name;
    }

    public void that(String what, boolean holds) {
        done++;
        if (!holds) {
            wrong++;
            System.out.println(name + ": " + what + ": is not so");
        }
    }

    public void equal(String what, long got, long due) {
        done++;
        if (got != due) {
            wrong++;
            System.out.println(name + ": " + what + ": answered " + got + ", due is " + due);
        }
    }

    public void equal(String what, String got, String due) {
        done++;
        if (!got.equals(due)) {
            wrong++;
            System.out.println(name + ": " + what + ": answered " + got + ", due is " + due);
        }
    }

    /** A call whose answer or exception is looked at. */
    public interface Call {
        long made();
    }

    public void thrown(String what, Class<? extends RuntimeException> due, Call call) {
        String got = "nothing";
        try {
            call.made();
        } catch (RuntimeException e) {
            got = e.getClass().getSimpleName();
        }
        equal(what + " throws", got, due.getSimpleName());
    }

    public void close() {
        System.out.println(name + ": " + done + " checks, " + wrong + " wrong");
        if (wrong != 0 || done == 0) {
            System.exit(1);
        }
    }
}
