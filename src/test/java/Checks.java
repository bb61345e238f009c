import java.util.Objects;

/** Counts tests and prints what was not as due; a test is one or more checks under one name. */
final class Checks {
    private int passed;
    private int failed;
    private String name = "";
    private boolean good;

    void test(String title, Runnable body) {
        name = title;
        good = true;
        try {
            body.run();
        } catch (RuntimeException thrown) {
            complain("threw " + thrown);
        }
        if (good) {
            passed++;
        } else {
            failed++;
        }
    }

    void same(Object want, Object got, String what) {
        if (!Objects.equals(want, got)) {
            complain(what + " answered " + got + ", due is " + want);
        }
    }

    void throwing(Class<? extends RuntimeException> type, String what, Runnable call) {
        try {
            call.run();
        } catch (RuntimeException thrown) {
            // The exact class: a subclass such as ArrayIndexOutOfBoundsException is the machine's.
            if (thrown.getClass() != type) {
                complain(what + " threw " + thrown + ", due is " + type.getSimpleName());
            }
            return;
        }
        complain(what + " threw nothing, due is " + type.getSimpleName());
    }

    void badIndex(String what, Runnable call) {
        throwing(IndexOutOfBoundsException.class, what, call);
    }

    void badArgument(String what, Runnable call) {
        throwing(IllegalArgumentException.class, what, call);
    }

    void badState(String what, Runnable call) {
        throwing(IllegalStateException.class, what, call);
    }

    /** A call with a gardener must refuse every number but 0 and 1. */
    void gardenerOnly(String what, java.util.function.IntConsumer call) {
        for (int gardener : new int[] {-1, 2, Integer.MIN_VALUE, Integer.MAX_VALUE}) {
            badArgument(what + " of gardener " + gardener, () -> call.accept(gardener));
        }
    }

    /** A call with a slot must refuse every number that is not below the number of slots. */
    void slotOnly(String what, int slots, java.util.function.IntConsumer call) {
        for (int slot : new int[] {-1, slots, 40, Integer.MIN_VALUE, Integer.MAX_VALUE}) {
            badIndex(what + " of slot " + slot, () -> call.accept(slot));
        }
    }

    void close() {
        System.out.println(passed + " passed, " + failed + " failed");
        if (failed > 0) {
            System.exit(1);
        }
    }

    private void complain(String what) {
        good = false;
        System.out.println(name + ": " + what);
    }
}
