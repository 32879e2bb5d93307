/** Counts what the tests ask; a test class ends with close(). */
final class Checks {
    interface Call {
        long answer();
    }

    private int passed;
    private int failed;

    void eq(String what, long got, long due) {
        if (got == due) {
            passed++;
        } else {
            fail(what + " answered " + got + ", due is " + due);
        }
    }

    void holds(String what, boolean holds) {
        eq(what, holds ? 1 : 0, 1);
    }

    /** The class must be the very one: a subclass would mean that the machine threw. */
    void fails(String what, Class<?> due, Call call) {
        String got;
        try {
            got = "answered " + call.answer();
        } catch (RuntimeException e) {
            if (e.getClass() == due) {
                passed++;
                return;
            }
            got = "threw " + e;
        }
        fail(what + " " + got + ", due is " + due.getName());
    }

    void bounds(String what, Call call) {
        fails(what, IndexOutOfBoundsException.class, call);
    }

    void argument(String what, Call call) {
        fails(what, IllegalArgumentException.class, call);
    }

    void state(String what, Call call) {
        fails(what, IllegalStateException.class, call);
    }

    void fail(String what) {
        failed++;
        if (failed <= 50) {
            System.out.println(what);
        }
    }

    void close(String name) {
        System.out.println(name + ": " + passed + " passed, " + failed + " failed");
        if (failed != 0 || passed == 0) {
            System.exit(1);
        }
    }
}
