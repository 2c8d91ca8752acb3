/** Compares answers with those that are due; a test ends with exit code 1 if one was wrong. */
final class Check {
    private static final int MOST_PRINTED = 50;
    private static int checked = 0;
    private static int wrong = 0;

    private Check() {
    }

    static void equal(String call, long got, long due) {
        report(call, got == due, Long.toString(got), Long.toString(due));
    }

    static void equalFloat(String call, float got, float due) {
        report(call, Float.compare(got, due) == 0, Float.toString(got), Float.toString(due));
    }

    static void equalText(String call, String got, String due) {
        report(call, got.equals(due), got, due);
    }

    static void isTrue(String call, boolean got) {
        report(call, got, "false", "true");
    }

    static void isFalse(String call, boolean got) {
        report(call, !got, "true", "false");
    }

    static void index(String call, Runnable action) {
        fails(call, IndexOutOfBoundsException.class, action);
    }

    static void argument(String call, Runnable action) {
        fails(call, IllegalArgumentException.class, action);
    }

    static void state(String call, Runnable action) {
        fails(call, IllegalStateException.class, action);
    }

    /** The very class is due: a subclass would be one that the machine throws. */
    private static void fails(String call, Class<?> due, Runnable action) {
        String got = "nothing";
        try {
            action.run();
        } catch (RuntimeException thrown) {
            got = thrown.getClass().getName();
        }
        report(call, got.equals(due.getName()), "throws " + got, "throws " + due.getName());
    }

    private static void report(String call, boolean right, String got, String due) {
        checked++;
        if (!right) {
            wrong++;
            if (wrong <= MOST_PRINTED) {
                System.out.println(call + " answered " + got + ", due is " + due);
            }
        }
    }

    static void finish() {
        System.out.println(checked + " answers, " + wrong + " wrong");
        if (wrong != 0 || checked == 0) {
            System.exit(1);
        }
    }
}
