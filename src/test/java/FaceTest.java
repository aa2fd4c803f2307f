/** Promises 1 to 5, 8, 10 and 11, and what calls that throw leave. */
public final class FaceTest {
    private static final Checks CHECKS = new Checks();

    private FaceTest() {
    }

    public static void main(String[] args) {
        newObject();
        row();
        CHECKS.finish("FaceTest");
    }

    private static void newObject() {
        WasmMerge x = new WasmMerge();
        CHECKS.answers("clear", x::clear, 0);
        CHECKS.answers("end(0)", () -> x.end(0), 0);
        CHECKS.throwing("end(1)", () -> x.end(1), IllegalArgumentException.class);
        CHECKS.same("fault", x.fault(), 0);
        CHECKS.same("trap", x.trap(), 0);
        CHECKS.same("take", x.take(), 0);
        CHECKS.throwing("merge", x::merge, IllegalStateException.class);
    }

    private static void row() {
        WasmMerge x = new WasmMerge();
        for (int i = 1; i <= 200; i++) {
            int due = 20 * i;
            CHECKS.answers("feed", () -> x.feed(1, 2, 3, 4, 5), due);
        }
        CHECKS.throwing("feed", () -> x.feed(1, 2, 3, 4, 5), IllegalStateException.class);
        CHECKS.answers("end", () -> x.end(3981), 3981);
        CHECKS.throwing("feed", () -> x.feed(1, 2, 3, 4, 5), IllegalStateException.class);
        CHECKS.answers("end", () -> x.end(3980), 3980);
        CHECKS.answers("feed", () -> x.feed(1, 2, 3, 4, 5), 4000);
    }
}
