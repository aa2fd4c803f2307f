/** Counts what is as it is due, and prints what is not; finish() ends the test. */
final class Checks {
    private int right;
    private int wrong;

    /** A call that may throw. */
    interface Call {
        long run();
    }

    void same(String what, long got, long due) {
        if (got == due) {
            right++;
        } else {
            wrong++;
            System.out.println(what + " answered " + got + ", due is " + due);
        }
    }

    void answers(String what, Call call, long due) {
        String thrown = "nothing";
        long got = 0;
        try {
            got = call.run();
        } catch (RuntimeException e) {
            thrown = e.getClass().getSimpleName();
        }
        if (thrown.equals("nothing")) {
            same(what, got, due);
        } else {
            wrong++;
            System.out.println(what + " threw " + thrown + ", due is " + due);
        }
    }

    void throwing(String what, Call call, Class<? extends RuntimeException> due) {
        String got;
        try {
            got = "answered " + call.run();
        } catch (RuntimeException e) {
            got = "threw " + e.getClass().getSimpleName();
        }
        if (got.equals("threw " + due.getSimpleName())) {
            right++;
        } else {
            wrong++;
            System.out.println(what + " " + got + ", due is " + due.getSimpleName());
        }
    }

    void finish(String name) {
        System.out.println(name + ": " + right + " right, " + wrong + " wrong");
        if (wrong > 0 || right == 0) {
            System.exit(1);
        }
    }
}
