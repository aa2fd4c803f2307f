/** Promises 1 to 5, 8, 10, 11 and 15, and what calls leave that throw. */
public final class FaceTest {
    private static final Checks CHECKS = new Checks();
    private static final byte[] EMPTY = Binary.module();
    private static final byte[] MALFORMED = Binary.bytes(0, 'a', 's', 'm', 2, 0, 0, 0);

    private FaceTest() {
    }

    public static void main(String[] args) {
        newObject();
        feed();
        end();
        add();
        addDropsMerge();
        clear();
        argument();
        fault();
        trap();
        told();
        CHECKS.finish("FaceTest");
    }

    private static void newObject() {
        WasmMerge x = new WasmMerge();
        CHECKS.same("new: fault", x.fault(), 0);
        CHECKS.same("new: trap", x.trap(), 0);
        CHECKS.same("new: take", x.take(), 0);
        CHECKS.throwing("new: end(1)", () -> x.end(1), IllegalArgumentException.class);
        CHECKS.answers("new: end(0)", () -> x.end(0), 0);
        CHECKS.throwing("new: merge", x::merge, IllegalStateException.class);
        CHECKS.throwing("new: begin", x::begin, IllegalStateException.class);
        CHECKS.throwing("new: call", () -> x.call(0, 0), IllegalStateException.class);
        CHECKS.throwing("new: memory", () -> x.memory(0), IllegalStateException.class);
        CHECKS.throwing("new: global", () -> x.global(0, 0), IllegalStateException.class);
        CHECKS.throwing("new: told", () -> x.told(0, 0), IndexOutOfBoundsException.class);
        CHECKS.throwing("new: count", () -> x.count(0), IllegalStateException.class);
        CHECKS.throwing("new: check", x::check, IllegalStateException.class);
        CHECKS.answers("new: clear", x::clear, 0);
    }

    private static void feed() {
        WasmMerge x = new WasmMerge();
        for (int i = 1; i <= 200; i++) {
            int due = 20 * i;
            CHECKS.answers("feed", () -> x.feed(1, 2, 3, 4, 5), due);
        }
        CHECKS.throwing("feed beyond 4000", () -> x.feed(1, 2, 3, 4, 5), IllegalStateException.class);
        CHECKS.answers("end(3981)", () -> x.end(3981), 3981);
        CHECKS.throwing("feed to 4001", () -> x.feed(1, 2, 3, 4, 5), IllegalStateException.class);
        CHECKS.answers("a refused feed leaves the row", () -> x.end(3981), 3981);
        CHECKS.throwing("a refused feed adds nothing", () -> x.end(3982), IllegalArgumentException.class);
        CHECKS.answers("end(3980)", () -> x.end(3980), 3980);
        CHECKS.answers("feed to 4000", () -> x.feed(1, 2, 3, 4, 5), 4000);
        // the highest byte of a comes first: a custom section of twelve bytes tells all twenty places
        WasmMerge y = new WasmMerge();
        y.feed(0x0061736d, 0x01000000, 0x000a0361, 0x62630102, 0x03040506);
        CHECKS.answers("the bytes in their order", y::add, 0);
        y.feed(0x6d736100, 0x00000001, 0x000a0361, 0x62630102, 0x03040506);
        CHECKS.throwing("the bytes the other way", y::add, UnsupportedOperationException.class);
    }

    private static void end() {
        WasmMerge x = new WasmMerge();
        x.feed(0x0061736d, 0x01000000, -1, -1, -1);
        CHECKS.throwing("end(-1)", () -> x.end(-1), IllegalArgumentException.class);
        CHECKS.throwing("end(least int)", () -> x.end(Integer.MIN_VALUE), IllegalArgumentException.class);
        CHECKS.throwing("end(21)", () -> x.end(21), IllegalArgumentException.class);
        CHECKS.throwing("end(greatest int)", () -> x.end(Integer.MAX_VALUE), IllegalArgumentException.class);
        CHECKS.answers("end(20)", () -> x.end(20), 20);
        CHECKS.answers("end(8)", () -> x.end(8), 8);
        CHECKS.throwing("end(9)", () -> x.end(9), IllegalArgumentException.class);
        CHECKS.answers("the first bytes stay", x::add, 0);
        CHECKS.answers("end and feed again", () -> x.feed(0x00617300, 0, 0, 0, 0) + x.end(3)
            + x.feed(0x6d010000, 0, 0, 0, 0) + x.end(8), 20 + 3 + 23 + 8);
        CHECKS.answers("what feed brings comes behind", x::add, 1);
    }

    private static void add() {
        WasmMerge x = new WasmMerge();
        CHECKS.throwing("add of an empty row", x::add, UnsupportedOperationException.class);
        CHECKS.same("fault of an empty row", x.fault(), 1);
        for (int k = 0; k < 6; k++) {
            Binary.feed(x, EMPTY);
            CHECKS.answers("add", x::add, k);
            CHECKS.answers("the row is empty then", () -> x.feed(0, 0, 0, 0, 0), 20);
            CHECKS.answers("end", () -> x.end(0), 0);
        }
        Binary.feed(x, MALFORMED);
        CHECKS.throwing("add to six", x::add, IllegalStateException.class);
        CHECKS.same("six: no fault", x.fault(), 0);
        CHECKS.answers("six: the row stays", () -> x.feed(0, 0, 0, 0, 0), 28);
        CHECKS.answers("six: still there", x::clear, 6);
        x.end(8);
        CHECKS.throwing("the row that stayed", x::add, UnsupportedOperationException.class);
        CHECKS.answers("a fault empties the row", () -> x.feed(0, 0, 0, 0, 0), 20);
        CHECKS.answers("a fault adds nothing", x::clear, 0);
    }

    /** With and without a FAULT; but not if there are six. */
    private static void addDropsMerge() {
        for (int way = 0; way < 5; way++) {
            WasmMerge x = Binary.running(EMPTY);
            x.argument(7);
            boolean drops = true;
            if (way == 0) {
                Binary.feed(x, EMPTY);
                x.add();
            } else if (way == 1) {
                Binary.feed(x, MALFORMED);
                CHECKS.throwing("add", x::add, UnsupportedOperationException.class);
            } else if (way == 2) {
                x.clear();
            } else if (way == 3) {
                x.merge();
            } else {
                Binary.feed(x, EMPTY);
                drops = false;
            }
            String what = "way " + way;
            CHECKS.answers(what + ": arguments", () -> x.argument(1), drops ? 1 : 2);
            if (way == 3) {
                CHECKS.answers(what + ": merge", () -> x.count(2), 0);
            } else if (drops) {
                CHECKS.throwing(what + ": count", () -> x.count(0), IllegalStateException.class);
                CHECKS.throwing(what + ": check", x::check, IllegalStateException.class);
                CHECKS.throwing(what + ": begin", x::begin, IllegalStateException.class);
            }
            if (drops) {
                CHECKS.throwing(what + ": memory", () -> x.memory(0), IllegalStateException.class);
                CHECKS.throwing(what + ": call", () -> x.call(0, 0), IllegalStateException.class);
            } else {
                CHECKS.answers(what + ": memory", () -> x.memory(0), -1);
            }
        }
        WasmMerge six = Binary.running(EMPTY, EMPTY, EMPTY, EMPTY, EMPTY, EMPTY);
        six.argument(7);
        Binary.feed(six, EMPTY);
        CHECKS.throwing("seventh", six::add, IllegalStateException.class);
        CHECKS.answers("seventh: arguments stay", () -> six.argument(1), 2);
        CHECKS.answers("seventh: the run stays", () -> six.memory(0), -1);
    }

    private static void clear() {
        WasmMerge x = Binary.with(EMPTY, EMPTY);
        x.feed(1, 2, 3, 4, 5);
        CHECKS.answers("clear", x::clear, 2);
        CHECKS.answers("clear again", x::clear, 0);
        CHECKS.answers("clear leaves the row", () -> x.feed(1, 2, 3, 4, 5), 40);
        CHECKS.throwing("no modules any more", () -> x.told(0, 0), IndexOutOfBoundsException.class);
        CHECKS.throwing("nothing to merge", x::merge, IllegalStateException.class);
        Binary.feed(x, EMPTY);
        CHECKS.answers("add after clear", x::add, 0);
    }

    private static void argument() {
        WasmMerge x = new WasmMerge();
        for (int n = 1; n <= 6; n++) {
            int value = n;
            CHECKS.answers("argument", () -> x.argument(value), n);
        }
        CHECKS.throwing("seventh argument", () -> x.argument(7), IllegalStateException.class);
        CHECKS.throwing("merge without modules", x::merge, IllegalStateException.class);
        CHECKS.throwing("arguments stay then", () -> x.argument(7), IllegalStateException.class);
        CHECKS.answers("clear", x::clear, 0);
        CHECKS.answers("arguments are gone", () -> x.argument(7), 1);
    }

    private static void fault() {
        WasmMerge x = new WasmMerge();
        Binary.feed(x, MALFORMED);
        CHECKS.throwing("malformed", x::add, UnsupportedOperationException.class);
        CHECKS.same("fault", x.fault(), 1);
        CHECKS.throwing("merge without modules", x::merge, IllegalStateException.class);
        CHECKS.same("fault stays", x.fault(), 1);
        x.clear();
        CHECKS.same("fault stays by clear", x.fault(), 1);
        Binary.feed(x, EMPTY);
        x.add();
        CHECKS.same("fault is gone", x.fault(), 0);
        Binary.feed(x, Binary.module(Binary.imports(Binary.imported("z", "g", 3, Binary.bytes(Binary.I32, 0)))));
        x.add();
        CHECKS.throwing("merge", x::merge, UnsupportedOperationException.class);
        CHECKS.same("link fault", x.fault(), 4);
        Binary.feed(x, EMPTY);
        x.add();
        CHECKS.same("link fault is gone", x.fault(), 0);
        x.clear();
        Binary.feed(x, EMPTY);
        x.add();
        Binary.feed(x, MALFORMED);
        CHECKS.throwing("malformed", x::add, UnsupportedOperationException.class);
        x.merge();
        CHECKS.same("fault is gone by merge", x.fault(), 0);
    }

    private static void trap() {
        WasmMerge x = Binary.running(Binary.module(
            Binary.types(Binary.type(Binary.NO), Binary.type(Binary.NO, Binary.I32)),
            Binary.functions(0, 0, 1),
            Binary.exports(Binary.export("u", 0, 0), Binary.export("n", 0, 1), Binary.export("p", 0, 2)),
            Binary.codes(Binary.body(Binary.op(0)), Binary.body(), Binary.body())));
        CHECKS.same("no trap", x.trap(), 0);
        CHECKS.throwing("unreachable", () -> x.call(0, 0), ArithmeticException.class);
        CHECKS.same("trap", x.trap(), 1);
        CHECKS.throwing("no such export", () -> x.call(0, 3), IndexOutOfBoundsException.class);
        CHECKS.throwing("too few arguments", () -> x.call(0, 2), IllegalArgumentException.class);
        CHECKS.same("trap stays", x.trap(), 1);
        CHECKS.answers("call", () -> x.call(0, 1), 0);
        CHECKS.same("trap is gone by call", x.trap(), 0);
        CHECKS.throwing("unreachable", () -> x.call(0, 0), ArithmeticException.class);
        CHECKS.answers("begin", x::begin, 0);
        CHECKS.same("trap is gone by begin", x.trap(), 0);
        CHECKS.throwing("unreachable", () -> x.call(0, 0), ArithmeticException.class);
        x.clear();
        CHECKS.throwing("nothing is merged", x::begin, IllegalStateException.class);
        CHECKS.same("trap stays by begin that throws", x.trap(), 1);
    }

    private static void told() {
        byte[] first = Binary.i32(0);
        WasmMerge x = Binary.with(EMPTY, Binary.module(
            Binary.types(Binary.type(Binary.NO), Binary.type(Binary.I32), Binary.type(Binary.NO)),
            Binary.imports(Binary.imported("h", "f", 0, Binary.u32(0)),
                Binary.imported("a", "g", 3, Binary.bytes(Binary.I32, 0))),
            Binary.functions(0, 0, 0),
            Binary.tables(Binary.limits(3)),
            Binary.memories(Binary.limits(1)),
            Binary.globals(Binary.global(Binary.I32, 0, Binary.i32(5)),
                Binary.global(Binary.I64, 1, Binary.i64(5)), Binary.global(Binary.I64, 1, Binary.i64(5)),
                Binary.global(Binary.I64, 1, Binary.i64(5))),
            Binary.exports(Binary.export("m", 2, 0), Binary.export("t", 1, 0), Binary.export("g", 3, 0),
                Binary.export("f", 0, 0), Binary.export("", 3, 1), Binary.export("x", 0, 3)),
            Binary.start(1),
            Binary.elements(Binary.times(7, Binary.element(first, 1))),
            Binary.codes(Binary.times(3, Binary.body())),
            Binary.data(Binary.times(8, Binary.datum(first, 1, 2)))));
        int[] due = {3, 2, 4, 5, 6, 7, 8, 1};
        int[] sorts = {2, 1, 3, 0, 3, 0};
        for (int what = 0; what < 8; what++) {
            int asked = what;
            CHECKS.answers("told(0, " + what + ")", () -> x.told(0, asked), 0);
            CHECKS.answers("told(1, " + what + ")", () -> x.told(1, asked), due[what]);
        }
        for (int j = 0; j < 6; j++) {
            int asked = 10 + j;
            CHECKS.answers("told(1, " + asked + ")", () -> x.told(1, asked), sorts[j]);
        }
        for (int what : new int[] {-1, 8, 9, 16, Integer.MIN_VALUE, Integer.MAX_VALUE}) {
            CHECKS.throwing("told(1, " + what + ")", () -> x.told(1, what), IllegalArgumentException.class);
            CHECKS.throwing("told(2, " + what + ")", () -> x.told(2, what), IndexOutOfBoundsException.class);
        }
        x.clear();
        Binary.feed(x, EMPTY);
        x.add();
        Binary.feed(x, EMPTY);
        x.add();
        for (int what = 0; what < 8; what++) {
            int asked = what;
            CHECKS.answers("told(1, " + what + ") of a new one", () -> x.told(1, asked), 0);
        }
        CHECKS.throwing("told(0, 10)", () -> x.told(0, 10), IllegalArgumentException.class);
        CHECKS.throwing("told(-1, 0)", () -> x.told(-1, 0), IndexOutOfBoundsException.class);
        CHECKS.throwing("told(2, 0)", () -> x.told(2, 0), IndexOutOfBoundsException.class);
        CHECKS.throwing("told(6, 0)", () -> x.told(6, 0), IndexOutOfBoundsException.class);
    }
}
