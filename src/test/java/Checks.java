/** Counts what is as it is due, and prints what is not; finish() ends the test. */
final class Checks {
    private int right;
    private int wrong;
    private String sentence = "";
    private int before;

    /** A call that may throw. */
    interface Call {
        long run();
    }

    /** What follows looks at this sentence of the document; a sentence at which nothing looks is wrong. */
    void sentence(String text) {
        endSentence();
        sentence = "'" + text + "': ";
        before = right + wrong;
    }

    private void endSentence() {
        if (!sentence.isEmpty() && before == right + wrong) {
            refuse("nothing was looked at");
        }
    }

    private void refuse(String what) {
        wrong++;
        System.out.println(sentence + what);
    }

    void same(String what, long got, long due) {
        if (got == due) {
            right++;
        } else {
            refuse(what + " answered " + got + ", due is " + due);
        }
    }

    void sameText(String what, String got, String due) {
        if (got.equals(due)) {
            right++;
        } else {
            refuse(what + " told " + got + ", due is " + due);
        }
    }

    void answers(String what, Call call, long due) {
        String thrown = "nothing";
        long got = 0;
        try {
            got = call.run();
        } catch (RuntimeException e) {
            thrown = e.getClass().getSimpleName();
        }
        if (thrown.equals("nothing")) {
            same(what, got, due);
        } else {
            refuse(what + " threw " + thrown + ", due is " + due);
        }
    }

    void throwing(String what, Call call, Class<? extends RuntimeException> due) {
        String got;
        try {
            got = "answered " + call.run();
        } catch (RuntimeException e) {
            got = "threw " + e.getClass().getSimpleName();
        }
        if (got.equals("threw " + due.getSimpleName())) {
            right++;
        } else {
            refuse(what + " " + got + ", due is " + due.getSimpleName());
        }
    }

    void finish(String name) {
        endSentence();
        System.out.println(name + ": " + right + " right, " + wrong + " wrong");
        if (wrong > 0 || right == 0) {
            System.exit(1);
        }
    }
}
