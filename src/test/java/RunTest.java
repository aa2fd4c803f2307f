/** Promises 7, 9 and 11 to 14, and Term 3: how THE RUN begins, and what its calls do. */
public final class RunTest {
    private static final Checks CHECKS = new Checks();
    private static final int I32 = Binary.I32;
    private static final int I64 = Binary.I64;
    private static final int NO = Binary.NO;
    private static final byte[] END = Binary.op(0x0b);
    private static final byte[] ELSE = Binary.op(0x05);
    private static final byte[] NOP = Binary.op(0x01);
    private static final byte[] DROP = Binary.op(0x1a);
    private static final byte[] ADD = Binary.op(0x6a);
    private static final byte[] SUB = Binary.op(0x6b);
    private static final byte[] ZERO = Binary.i32(0);
    private static final byte[] ONE = Binary.i32(1);

    private RunTest() {
    }

    public static void main(String[] args) {
        callStates();
        callArguments();
        callAfterTrap();
        globals();
        initials();
        memoryBytes();
        beginAnew();
        segments();
        elementsComeFirst();
        starts();
        startSteps();
        startTrap();
        output();
        unreachable();
        accesses();
        grow();
        indirect();
        depth();
        steps();
        stepsWithout();
        control();
        tables();
        recursion();
        shared();
        longCode();
        CHECKS.finish("RunTest");
    }

    /** A MODULE of one function, which is export 0, with a memory of one to two pages, which is export 1. */
    private static byte[] single(byte[] type, byte[]... instructions) {
        return Binary.module(Binary.types(type), Binary.functions(0), Binary.memories(Binary.limits(1, 2)),
            Binary.exports(Binary.export("f", 0, 0), Binary.export("m", 2, 0)),
            Binary.codes(Binary.bodyWith(Binary.locals(2, I32), Binary.join(instructions))));
    }

    private static void callStates() {
        WasmMerge x = new WasmMerge();
        CHECKS.throwing("call in a new one", () -> x.call(9, 9), IllegalStateException.class);
        Binary.feed(x, Binary.module(Binary.types(Binary.type(NO, I32, I64)), Binary.functions(0),
            Binary.tables(Binary.limits(1)), Binary.memories(Binary.limits(1)),
            Binary.globals(Binary.global(I32, 0, ONE)),
            Binary.exports(Binary.export("f", 0, 0), Binary.export("t", 1, 0), Binary.export("m", 2, 0),
                Binary.export("g", 3, 0)), Binary.codes(Binary.body())));
        x.add();
        CHECKS.throwing("call before merge", () -> x.call(0, 0), IllegalStateException.class);
        x.merge();
        CHECKS.throwing("call before begin", () -> x.call(9, 9), IllegalStateException.class);
        CHECKS.throwing("global before begin", () -> x.global(9, 9), IllegalStateException.class);
        CHECKS.throwing("memory before begin", () -> x.memory(0), IllegalStateException.class);
        CHECKS.same("pages before begin", x.count(5), -1);
        x.argument(1);
        CHECKS.answers("begin", x::begin, 0);
        CHECKS.answers("begin leaves arguments", () -> x.argument(2), 2);
        int[][] none = {{-1, 0}, {1, 0}, {0, -1}, {0, 4}, {6, 0}, {Integer.MAX_VALUE, 0}, {0, Integer.MIN_VALUE}};
        for (int[] pair : none) {
            CHECKS.throwing("call of none", () -> x.call(pair[0], pair[1]), IndexOutOfBoundsException.class);
            CHECKS.throwing("global of none", () -> x.global(pair[0], pair[1]), IndexOutOfBoundsException.class);
        }
        for (int j = 1; j < 4; j++) {
            int asked = j;
            CHECKS.throwing("call of no function", () -> x.call(0, asked), IllegalArgumentException.class);
        }
        for (int j = 0; j < 3; j++) {
            int asked = j;
            CHECKS.throwing("global of none such", () -> x.global(0, asked), IllegalArgumentException.class);
        }
        WasmMerge six = Binary.running(withElements(), Binary.module(), growing(Binary.limits(0)), Binary.module(),
            Binary.module(), Binary.module());
        CHECKS.throwing("call of module 6", () -> six.call(6, 0), IndexOutOfBoundsException.class);
        six.clear();
        Binary.feed(six, Binary.module());
        six.add();
        six.merge();
        six.begin();
        CHECKS.throwing("call of what is gone", () -> six.call(2, 0), IndexOutOfBoundsException.class);
        CHECKS.throwing("call of what was there before", () -> six.call(0, 0), IndexOutOfBoundsException.class);
        x.argument(3);
        CHECKS.throwing("three arguments for two", () -> x.call(0, 0), IllegalArgumentException.class);
        CHECKS.answers("arguments stay", () -> x.argument(4), 4);
        x.merge();
        x.begin();
        x.argument(1);
        CHECKS.throwing("one argument for two", () -> x.call(0, 0), IllegalArgumentException.class);
        CHECKS.answers("the argument stays", () -> x.argument(2), 2);
        CHECKS.answers("two arguments for two", () -> x.call(0, 0), 0);
        CHECKS.answers("they are gone", () -> x.argument(5), 1);
    }

    private static void callArguments() {
        WasmMerge x = Binary.running(Binary.module(
            Binary.types(Binary.type(I32, I32), Binary.type(I64, I64), Binary.type(I64, I32, I64, I32, I64, I32, I64),
                Binary.type(I64, I32)),
            Binary.functions(0, 1, 2, 3),
            Binary.exports(Binary.export("a", 0, 0), Binary.export("b", 0, 1), Binary.export("c", 0, 2),
                Binary.export("d", 0, 3)),
            Binary.codes(Binary.body(Binary.get(0)), Binary.body(Binary.get(0)),
                Binary.body(digits()), Binary.body(Binary.get(0), Binary.op(0xad)))));
        long[] values = {0, 1, -1, Integer.MAX_VALUE, Integer.MIN_VALUE, 0x80000000L, 0xffffffffL, 0x100000000L,
            0x1ffffffffL, Long.MAX_VALUE, Long.MIN_VALUE};
        for (long value : values) {
            CHECKS.answers("i32 of " + value, () -> Binary.callWith(x, 0, 0, value), (int) value);
            CHECKS.answers("i64 of " + value, () -> Binary.callWith(x, 0, 1, value), value);
            CHECKS.answers("low bits of " + value, () -> Binary.callWith(x, 0, 3, value), value & 0xffffffffL);
        }
        CHECKS.answers("six in their order", () -> Binary.callWith(x, 0, 2, 1, 2, 3, 4, 5, 6), 123456);
    }

    /** Six parameters as the digits of a number. */
    private static byte[] digits() {
        byte[] all = Binary.i64(0);
        for (int i = 0; i < 6; i++) {
            byte[] value = i % 2 == 0 ? Binary.join(Binary.get(i), Binary.op(0xac)) : Binary.get(i);
            all = Binary.join(all, Binary.i64(10), Binary.op(0x7e), value, Binary.op(0x7c));
        }
        return all;
    }

    private static void callAfterTrap() {
        WasmMerge x = Binary.running(single(Binary.type(I32, I32), ZERO, Binary.get(0), Binary.access(0x36, 0, 0),
            Binary.get(0), Binary.i32(1), SUB, Binary.bytes(0x04, NO), END, Binary.get(0), Binary.bytes(0x04, NO),
            Binary.op(0), END, Binary.i32(9)));
        CHECKS.same("trap", Binary.callTrap(x, 0, 0, 5), 1);
        CHECKS.answers("what was written stays", () -> x.memory(0), 5);
        CHECKS.answers("arguments are gone by a trap", () -> x.argument(0), 1);
        CHECKS.answers("the run goes on", () -> x.call(0, 0), 9);
        CHECKS.answers("arguments are gone by a call", () -> x.argument(0), 1);
    }

    private static void globals() {
        WasmMerge x = Binary.running(Binary.module(Binary.types(Binary.type(NO, I32, I64)), Binary.functions(0),
            Binary.globals(Binary.global(I32, 1, Binary.i32(-7)), Binary.global(I64, 1, Binary.i64(Long.MIN_VALUE)),
                Binary.global(I64, 0, Binary.i64(0x123456789abcdefL))),
            Binary.exports(Binary.export("i", 3, 0), Binary.export("l", 3, 1), Binary.export("c", 3, 2),
                Binary.export("f", 0, 0)),
            Binary.codes(Binary.body(Binary.get(0), Binary.op(0x24, 0), Binary.get(1), Binary.op(0x24, 1)))));
        CHECKS.answers("i32", () -> x.global(0, 0), -7);
        CHECKS.answers("i64", () -> x.global(0, 1), Long.MIN_VALUE);
        CHECKS.answers("i64", () -> x.global(0, 2), 0x123456789abcdefL);
        Binary.callWith(x, 0, 3, 0xfffffffeL, -3);
        CHECKS.answers("i32 that was set", () -> x.global(0, 0), -2);
        CHECKS.answers("i64 that was set", () -> x.global(0, 1), -3);
        x.begin();
        CHECKS.answers("i32 anew", () -> x.global(0, 0), -7);
        CHECKS.answers("i64 anew", () -> x.global(0, 1), Long.MIN_VALUE);
    }

    private static byte[] taking(String module, String name) {
        return Binary.module(Binary.imports(Binary.imported(module, name, 3, Binary.bytes(I32, 0))),
            Binary.globals(Binary.global(I32, 0, Binary.op(0x23, 0)), Binary.global(I32, 1, Binary.op(0x23, 0))),
            Binary.exports(Binary.export("i", 3, 0), Binary.export("g", 3, 1), Binary.export("h", 3, 2)));
    }

    private static void initials() {
        byte[] giving = Binary.module(Binary.globals(Binary.global(I32, 0, Binary.i32(13))),
            Binary.exports(Binary.export("g", 3, 0)));
        WasmMerge x = Binary.running(giving, taking("a", "g"), taking("b", "g"));
        CHECKS.answers("of one before", () -> x.global(1, 1), 13);
        CHECKS.answers("of one before by two", () -> x.global(2, 2), 13);
        WasmMerge y = Binary.running(taking("b", "g"), giving);
        CHECKS.answers("of one behind: the import", () -> y.global(0, 0), 13);
        CHECKS.answers("of one behind: 0", () -> y.global(0, 1), 0);
        y.begin();
        CHECKS.answers("of one behind: 0 again", () -> y.global(0, 2), 0);
        WasmMerge z = Binary.running(taking("c", "g"), taking("a", "g"), giving);
        CHECKS.answers("of what has 0 by that", () -> z.global(1, 1), 0);
        WasmMerge own = Binary.running(Binary.module(
            Binary.imports(Binary.imported("a", "y", 3, Binary.bytes(I32, 0))),
            Binary.globals(Binary.global(I32, 0, Binary.i32(4)), Binary.global(I32, 0, Binary.op(0x23, 0)),
                Binary.global(I32, 0, Binary.i32(6))),
            Binary.exports(Binary.export("y", 3, 1), Binary.export("z", 3, 2))));
        CHECKS.answers("of one's own import", () -> own.global(0, 1), 4);
    }

    private static void memoryBytes() {
        WasmMerge x = Binary.running(Binary.module(Binary.memories(Binary.limits(1)),
            Binary.data(Binary.datum(Binary.i32(65533), 1, 0x80, 0xff), Binary.datum(ZERO, 7))));
        CHECKS.answers("byte 0", () -> x.memory(0), 7);
        CHECKS.answers("byte 1", () -> x.memory(1), 0);
        CHECKS.answers("byte 65533", () -> x.memory(65533), 1);
        CHECKS.answers("byte 65534", () -> x.memory(65534), 128);
        CHECKS.answers("byte 65535", () -> x.memory(65535), 255);
        for (int at : new int[] {65536, -1, Integer.MAX_VALUE, Integer.MIN_VALUE, 131072}) {
            CHECKS.answers("byte " + at, () -> x.memory(at), -1);
        }
        WasmMerge none = Binary.running(Binary.module());
        CHECKS.answers("byte 0 without a memory", () -> none.memory(0), -1);
        CHECKS.same("pages without a memory", none.count(5), -1);
        WasmMerge no = Binary.running(Binary.module(Binary.memories(Binary.limits(0))));
        CHECKS.answers("byte 0 of no pages", () -> no.memory(0), -1);
        CHECKS.same("no pages", no.count(5), 0);
    }

    private static void beginAnew() {
        WasmMerge x = new WasmMerge();
        CHECKS.throwing("begin without a merge", x::begin, IllegalStateException.class);
        Binary.feed(x, Binary.module(Binary.types(Binary.type(NO), Binary.type(I32)),
            Binary.imports(Binary.imported("h", "h", 0, Binary.u32(0))), Binary.functions(0, 1),
            Binary.tables(Binary.limits(2)), Binary.memories(Binary.limits(1)),
            Binary.exports(Binary.export("f", 0, 1), Binary.export("g", 0, 2)),
            Binary.codes(Binary.body(Binary.i32(100), ONE, Binary.access(0x36, 0, 65536 - 104), ONE,
                Binary.bytes(0x40, 0), DROP, Binary.i32(65536), Binary.i32(77), Binary.access(0x36, 0, 65532),
                Binary.call(0)), Binary.body(Binary.i32(65536), Binary.access(0x28, 0, 65532)))));
        x.add();
        CHECKS.throwing("begin before merge", x::begin, IllegalStateException.class);
        x.merge();
        x.begin();
        x.call(0, 0);
        CHECKS.answers("written", () -> x.memory(65532), 1);
        CHECKS.answers("written at the end", () -> x.memory(131068), 77);
        CHECKS.same("pages", x.count(5), 2);
        CHECKS.same("output", x.count(7), 1);
        CHECKS.answers("begin anew", x::begin, 0);
        CHECKS.answers("a new memory", () -> x.memory(65532), 0);
        CHECKS.same("a new size", x.count(5), 1);
        CHECKS.same("output is empty", x.count(7), 0);
        CHECKS.answers("nothing to take", x::take, 0);
        CHECKS.same("beyond it", Binary.callTrap(x, 0, 1), 3);
        x.call(0, 0);
        CHECKS.answers("load", () -> x.call(0, 1), 77);
        x.begin();
        CHECKS.answers("begin again", x::begin, 0);
        CHECKS.same("a byte behind the end", Binary.callTrap(x, 0, 1), 3);
        WasmMerge grown = Binary.running(single(Binary.type(I32), ONE, Binary.bytes(0x40, 0), DROP,
            Binary.i32(131068), Binary.access(0x28, 0, 0), Binary.i32(131068), Binary.i32(5),
            Binary.access(0x36, 0, 0)));
        CHECKS.answers("new pages are of zeros", () -> grown.call(0, 0), 0);
        grown.begin();
        CHECKS.answers("new pages are of zeros anew", () -> grown.call(0, 0), 0);
    }

    private static byte[] withData(byte[]... data) {
        return Binary.module(Binary.memories(Binary.limits(1)), Binary.data(data));
    }

    private static byte[] withElements(byte[]... elements) {
        return Binary.module(Binary.types(Binary.type(I32), Binary.type(I32, I32)), Binary.functions(0, 1),
            Binary.tables(Binary.limits(3)), Binary.exports(Binary.export("c", 0, 1)),
            Binary.elements(elements),
            Binary.codes(Binary.body(Binary.i32(5)), Binary.body(Binary.get(0), Binary.indirect(0))));
    }

    private static void segments() {
        int[] ats = {65535, 65536, -1, 65533, 65534};
        int[] due = {0, 6, 6, 0, 6};
        int[] sizes = {1, 1, 1, 3, 3};
        for (int i = 0; i < ats.length; i++) {
            WasmMerge x = Binary.merged(withData(Binary.datum(Binary.i32(1), 8),
                Binary.datum(Binary.i32(ats[i]), new int[sizes[i]]), Binary.datum(Binary.i32(2), 9)));
            CHECKS.same("data at " + ats[i], Binary.beginTrap(x), due[i]);
            CHECKS.answers("data before it", () -> x.memory(1), 8);
            CHECKS.answers("data behind it", () -> x.memory(2), due[i] == 0 ? 9 : 0);
        }
        CHECKS.same("no data at the end", Binary.beginTrap(Binary.merged(withData(Binary.datum(Binary.i32(65536))))), 0);
        CHECKS.same("no data behind the end",
            Binary.beginTrap(Binary.merged(withData(Binary.datum(Binary.i32(65537))))), 6);
        WasmMerge last = Binary.running(withData(Binary.datum(ZERO, 1, 2, 3), Binary.datum(ONE, 9)));
        CHECKS.same("the last one stands", last.memory(0) * 100 + last.memory(1) * 10 + last.memory(2), 193);
        int[] places = {0, 1, 2, 3, -1};
        for (int place : places) {
            WasmMerge x = Binary.merged(withElements(Binary.element(ZERO, 0), Binary.element(Binary.i32(place), 0, 0)));
            int trap = place == 0 || place == 1 ? 0 : 6;
            CHECKS.same("elements at " + place, Binary.beginTrap(x), trap);
            CHECKS.answers("element before it", () -> Binary.callWith(x, 0, 0, 0), 5);
            CHECKS.same("nothing of it is written", Binary.callTrap(x, 0, 0, 2), place == 1 ? 0 : 4);
        }
        CHECKS.same("no elements at the end",
            Binary.beginTrap(Binary.merged(withElements(Binary.element(Binary.i32(3))))), 0);
        CHECKS.same("no elements behind the end",
            Binary.beginTrap(Binary.merged(withElements(Binary.element(Binary.i32(4))))), 6);
        WasmMerge anew = Binary.running(withElements(Binary.element(ONE, 0)));
        CHECKS.answers("element", () -> Binary.callWith(anew, 0, 0, 1), 5);
        anew.begin();
        CHECKS.answers("element anew", () -> Binary.callWith(anew, 0, 0, 1), 5);
        byte[] base = Binary.module(Binary.globals(Binary.global(I32, 0, Binary.i32(40))),
            Binary.exports(Binary.export("g", 3, 0)));
        WasmMerge far = Binary.running(base, Binary.module(
            Binary.imports(Binary.imported("a", "g", 3, Binary.bytes(I32, 0))), Binary.memories(Binary.limits(1)),
            Binary.globals(Binary.global(I32, 0, Binary.i32(50))),
            Binary.data(Binary.datum(Binary.op(0x23, 0), 4), Binary.datum(Binary.op(0x23, 1), 5))));
        CHECKS.answers("data at an imported global", () -> far.memory(40), 4);
        CHECKS.answers("data at a global", () -> far.memory(50), 5);
    }

    /** All elements are written before all data, MODULE by MODULE, and none behind the first that does not fit. */
    private static void elementsComeFirst() {
        byte[] first = Binary.module(Binary.memories(Binary.limits(1)), Binary.exports(Binary.export("m", 2, 0)),
            Binary.data(Binary.datum(ZERO, 6)));
        WasmMerge x = Binary.merged(first, withElements(Binary.element(Binary.i32(9), 0)));
        x.argument(1);
        CHECKS.throwing("an element that does not fit", x::begin, ArithmeticException.class);
        CHECKS.same("trap", x.trap(), 6);
        CHECKS.answers("no data then", () -> x.memory(0), 0);
        CHECKS.answers("arguments are gone", () -> x.argument(1), 1);
        byte[] second = Binary.module(Binary.imports(Binary.imported("a", "m", 2, Binary.limits(0))),
            Binary.data(Binary.datum(ONE, 7), Binary.datum(Binary.i32(-1), 8), Binary.datum(Binary.i32(2), 9)));
        byte[] third = Binary.module(Binary.imports(Binary.imported("a", "m", 2, Binary.limits(0))),
            Binary.data(Binary.datum(Binary.i32(3), 10)));
        WasmMerge y = Binary.merged(first, withElements(Binary.element(ONE, 0)), second, third);
        CHECKS.same("data that do not fit", Binary.beginTrap(y), 6);
        CHECKS.answers("elements stay", () -> Binary.callWith(y, 1, 0, 1), 5);
        CHECKS.same("data of both", y.memory(0) * 1000 + y.memory(1) * 100 + y.memory(2) * 10 + y.memory(3), 6700);
    }

    /** A start that tells its number to the host, behind some nops. */
    private static byte[] starting(int number, int nops, byte[] more) {
        return Binary.module(Binary.types(Binary.type(NO), Binary.type(NO, I32)),
            Binary.imports(Binary.imported("h", "h", 0, Binary.u32(1))), Binary.functions(0),
            Binary.start(1), Binary.codes(Binary.body(Binary.repeat(nops, NOP), Binary.i32(number), Binary.call(0),
                more)));
    }

    private static void starts() {
        WasmMerge x = Binary.running(starting(10, 0, Binary.NOTHING), Binary.module(), starting(20, 0, Binary.NOTHING));
        CHECKS.same("output of starts", x.count(7), 4);
        long[] due = {0, 10, 1, 20, 0};
        for (long number : due) {
            CHECKS.answers("take", x::take, number);
        }
        WasmMerge host = Binary.running(Binary.module(Binary.types(Binary.type(NO)),
            Binary.imports(Binary.imported("h", "h", 0, Binary.u32(0))), Binary.start(0)));
        CHECKS.same("a host that is a start", host.count(7), 1);
        WasmMerge data = Binary.running(Binary.module(Binary.types(Binary.type(NO)), Binary.functions(0),
            Binary.memories(Binary.limits(1)), Binary.start(0),
            Binary.codes(Binary.body(ONE, ZERO, Binary.access(0x2d, 0, 0), Binary.access(0x3a, 0, 0))),
            Binary.data(Binary.datum(ZERO, 42))));
        CHECKS.answers("starts come behind data", () -> data.memory(1), 42);
        WasmMerge none = Binary.merged(starting(1, 0, Binary.NOTHING),
            withData(Binary.datum(Binary.i32(-1), 1)));
        CHECKS.same("data that do not fit", Binary.beginTrap(none), 6);
        CHECKS.same("no starts then", none.count(7), 0);
    }

    /** All starts count as one call from outside. */
    private static void startSteps() {
        CHECKS.same("20000 steps of two starts",
            Binary.beginTrap(Binary.merged(spending(1428, 3), spending(1428, 3))), 0);
        CHECKS.same("20001 steps of two starts",
            Binary.beginTrap(Binary.merged(spending(1428, 3), Binary.module(), spending(1428, 4))), 7);
        CHECKS.same("20001 steps of the first",
            Binary.beginTrap(Binary.merged(spending(2857, 1), spending(1, 0))), 7);
        WasmMerge again = Binary.merged(spending(2000, 0));
        CHECKS.same("begin", Binary.beginTrap(again), 0);
        CHECKS.same("begin has its own steps", Binary.beginTrap(again), 0);
    }

    /** A start of 1 + 7 * turns + nops steps. */
    private static byte[] spending(int turns, int nops) {
        return Binary.module(Binary.types(Binary.type(NO)), Binary.functions(0), Binary.start(0),
            Binary.codes(Binary.bodyWith(Binary.locals(1, I32), Binary.join(counted(turns), Binary.repeat(nops, NOP)))));
    }

    /** 1 + 7 * turns steps; local 0 counts them. */
    private static byte[] counted(int turns) {
        return Binary.join(Binary.bytes(0x03, NO), Binary.get(0), Binary.i32(1), ADD, Binary.op(0x22, 0),
            Binary.i32(turns), Binary.op(0x48), Binary.op(0x0d, 0), END);
    }

    private static void startTrap() {
        WasmMerge x = Binary.merged(starting(1, 0, Binary.NOTHING), starting(2, 0, Binary.op(0)),
            starting(3, 0, Binary.NOTHING), single(Binary.type(I32), Binary.i32(6)));
        x.argument(1);
        CHECKS.throwing("a start that traps", x::begin, ArithmeticException.class);
        CHECKS.same("trap", x.trap(), 1);
        CHECKS.same("output until then", x.count(7), 4);
        CHECKS.answers("arguments are gone, the run goes on", () -> x.call(3, 0), 6);
        CHECKS.same("no trap", x.trap(), 0);
        CHECKS.throwing("begin again", x::begin, ArithmeticException.class);
        CHECKS.same("output anew", x.count(7), 4);
        CHECKS.answers("memory", () -> x.memory(0), 0);
    }

    private static void output() {
        WasmMerge x = Binary.running(Binary.module(
            Binary.types(Binary.type(I32, I32, I64), Binary.type(I64, I32), Binary.type(NO)),
            Binary.imports(Binary.imported("h", "x", 0, Binary.u32(2)), Binary.imported("h", "y", 0, Binary.u32(0)),
                Binary.imported("h", "z", 0, Binary.u32(1))),
            Binary.functions(2), Binary.exports(Binary.export("x", 0, 0), Binary.export("y", 0, 1),
                Binary.export("z", 0, 2), Binary.export("f", 0, 3)),
            Binary.codes(Binary.bodyWith(Binary.locals(1, I32), Binary.join(Binary.bytes(0x03, NO), Binary.call(0),
                Binary.get(0), ONE, ADD, Binary.op(0x22, 0), Binary.i32(1999), Binary.op(0x48), Binary.op(0x0d, 0),
                END)))));
        CHECKS.answers("take of none", x::take, 0);
        CHECKS.answers("a host gives 0", () -> Binary.callWith(x, 0, 1, 0xffffffffL, Long.MIN_VALUE), 0);
        CHECKS.answers("a host gives 0", () -> Binary.callWith(x, 0, 2, 0x80000000L), 0);
        CHECKS.same("numbers", x.count(7), 5);
        long[] due = {1, -1, Long.MIN_VALUE, 2, Integer.MIN_VALUE, 0, 0};
        for (long number : due) {
            CHECKS.answers("take", x::take, number);
        }
        CHECKS.same("all taken", x.count(7), 0);
        WasmMerge below = Binary.running(Binary.module(Binary.types(Binary.type(I32, I32, I64), Binary.type(NO, I64),
            Binary.type(I32)), Binary.imports(Binary.imported("h", "x", 0, Binary.u32(0)),
            Binary.imported("h", "y", 0, Binary.u32(1))), Binary.functions(2), Binary.exports(Binary.export("f", 0, 2)),
            Binary.codes(Binary.body(Binary.i32(10), Binary.i32(5), Binary.i64(6), Binary.call(0), ADD, Binary.i64(7),
                Binary.call(1)))));
        CHECKS.answers("a host takes its arguments alone", () -> below.call(0, 0), 10);
        for (long number : new long[] {0, 5, 6, 1, 7}) {
            CHECKS.answers("take", below::take, number);
        }
        x.call(0, 3);
        CHECKS.same("1999 numbers", x.count(7), 1999);
        Binary.callWith(x, 0, 1, 5, 6);
        CHECKS.same("at most 2000", x.count(7), 2000);
        Binary.callWith(x, 0, 2, 5);
        CHECKS.same("still 2000", x.count(7), 2000);
        CHECKS.answers("take of 2000", x::take, 0);
        CHECKS.same("one taken", x.count(7), 1999);
        Binary.callWith(x, 0, 1, 5, 6);
        CHECKS.same("2000 again", x.count(7), 2000);
        x.begin();
        Binary.callWith(x, 0, 2, 8);
        Binary.callWith(x, 0, 2, 9);
        CHECKS.answers("number", x::take, 2);
        CHECKS.answers("argument", x::take, 8);
        x.clear();
        CHECKS.answers("output stays without the run", x::take, 2);
        CHECKS.answers("output stays without the run", x::take, 9);
        CHECKS.answers("no more", x::take, 0);
    }

    private static void unreachable() {
        WasmMerge x = Binary.running(single(Binary.type(NO), Binary.op(0)));
        CHECKS.same("unreachable", Binary.callTrap(x, 0, 0), 1);
    }

    private static void accesses() {
        int[] bytes = {4, 8, 0, 0, 1, 1, 2, 2, 1, 1, 2, 2, 4, 4, 4, 8, 0, 0, 1, 2, 1, 2, 4};
        for (int op = 0x28; op <= 0x3e; op++) {
            int many = bytes[op - 0x28];
            if (many == 0) {
                continue;
            }
            boolean narrow = op == 0x36 || op == 0x3a || op == 0x3b;
            byte[] value = op < 0x36 ? Binary.NOTHING : narrow ? ONE : Binary.i64(1);
            byte[] rest = op < 0x36 ? DROP : Binary.NOTHING;
            WasmMerge x = Binary.running(single(Binary.type(NO, I32), Binary.get(0), value, Binary.access(op, 0, 0), rest));
            CHECKS.same("access " + op, Binary.callTrap(x, 0, 0, 0), 0);
            CHECKS.same("access " + op + " at the end", Binary.callTrap(x, 0, 0, 65536 - many), 0);
            CHECKS.same("access " + op + " over the end", Binary.callTrap(x, 0, 0, 65537 - many), 3);
            CHECKS.answers("access " + op + " writes nothing then", () -> x.memory(65535),
                op >= 0x36 && many == 1 ? 1 : 0);
            CHECKS.same("access " + op + " far behind", Binary.callTrap(x, 0, 0, -1), 3);
            CHECKS.same("access " + op + " at the least", Binary.callTrap(x, 0, 0, Integer.MIN_VALUE), 3);
            WasmMerge y = Binary.running(single(Binary.type(NO, I32), Binary.get(0), value,
                Binary.access(op, 0, 65000), rest));
            CHECKS.same("offset " + op, Binary.callTrap(y, 0, 0, 536 - many), 0);
            CHECKS.same("offset " + op + " over the end", Binary.callTrap(y, 0, 0, 537 - many), 3);
            WasmMerge z = Binary.running(single(Binary.type(NO, I32), Binary.get(0), value,
                Binary.access(op, 0, 0xffffffffL), rest));
            CHECKS.same("the greatest offset " + op, Binary.callTrap(z, 0, 0, 1), 3);
            CHECKS.same("the greatest of both " + op, Binary.callTrap(z, 0, 0, -1), 3);
        }
        WasmMerge none = Binary.running(Binary.module(Binary.types(Binary.type(I32)), Binary.functions(0),
            Binary.memories(Binary.limits(0)), Binary.exports(Binary.export("f", 0, 0)),
            Binary.codes(Binary.body(ZERO, Binary.access(0x2c, 0, 0)))));
        CHECKS.same("no pages", Binary.callTrap(none, 0, 0), 3);
    }

    private static byte[] growing(byte[] limits) {
        return Binary.module(Binary.types(Binary.type(I32, I32), Binary.type(I32)), Binary.functions(0, 1),
            Binary.memories(limits), Binary.exports(Binary.export("g", 0, 0), Binary.export("s", 0, 1)),
            Binary.codes(Binary.body(Binary.get(0), Binary.bytes(0x40, 0)), Binary.body(Binary.bytes(0x3f, 0))));
    }

    private static void grow() {
        WasmMerge x = Binary.running(growing(Binary.limits(0)));
        CHECKS.answers("grow by 0", () -> Binary.callWith(x, 0, 0, 0), 0);
        CHECKS.answers("grow by 3", () -> Binary.callWith(x, 0, 0, 3), -1);
        CHECKS.answers("grow by -1", () -> Binary.callWith(x, 0, 0, -1), -1);
        CHECKS.answers("grow by the least", () -> Binary.callWith(x, 0, 0, Integer.MIN_VALUE), -1);
        CHECKS.answers("size", () -> x.call(0, 1), 0);
        CHECKS.answers("grow by 1", () -> Binary.callWith(x, 0, 0, 1), 0);
        CHECKS.answers("size", () -> x.call(0, 1), 1);
        CHECKS.same("pages", x.count(5), 1);
        CHECKS.answers("byte", () -> x.memory(65535), 0);
        CHECKS.answers("no byte", () -> x.memory(65536), -1);
        CHECKS.answers("grow by 2", () -> Binary.callWith(x, 0, 0, 2), -1);
        CHECKS.answers("grow by 1", () -> Binary.callWith(x, 0, 0, 1), 1);
        CHECKS.answers("byte", () -> x.memory(131071), 0);
        CHECKS.answers("grow by 1 beyond", () -> Binary.callWith(x, 0, 0, 1), -1);
        CHECKS.answers("grow by 0 at the end", () -> Binary.callWith(x, 0, 0, 0), 2);
        CHECKS.answers("size", () -> x.call(0, 1), 2);
        WasmMerge one = Binary.running(growing(Binary.limits(0, 1)));
        CHECKS.answers("grow by 2 of 1", () -> Binary.callWith(one, 0, 0, 2), -1);
        CHECKS.answers("grow by 1 of 1", () -> Binary.callWith(one, 0, 0, 1), 0);
        CHECKS.answers("grow by 1 more", () -> Binary.callWith(one, 0, 0, 1), -1);
        WasmMerge many = Binary.running(growing(Binary.limits(1, 65536)));
        CHECKS.answers("grow by 2 of many", () -> Binary.callWith(many, 0, 0, 2), -1);
        CHECKS.answers("grow by 1 of many", () -> Binary.callWith(many, 0, 0, 1), 1);
        WasmMerge zero = Binary.running(growing(Binary.limits(0, 0)));
        CHECKS.answers("grow by 1 of none", () -> Binary.callWith(zero, 0, 0, 1), -1);
        CHECKS.answers("grow by 0 of none", () -> Binary.callWith(zero, 0, 0, 0), 0);
    }

    private static void indirect() {
        WasmMerge x = Binary.running(Binary.module(
            Binary.types(Binary.type(I32), Binary.type(I64), Binary.type(I32, I32), Binary.type(I32)),
            Binary.imports(Binary.imported("h", "h", 0, Binary.u32(0))), Binary.functions(0, 1, 2, 3, 2),
            Binary.tables(Binary.limits(8, 300)),
            Binary.exports(Binary.export("0", 0, 3), Binary.export("1", 0, 5)),
            Binary.elements(Binary.element(ONE, 1, 2, 0, 3, 4)),
            Binary.codes(Binary.body(Binary.i32(21)), Binary.body(Binary.i64(22)),
                Binary.body(Binary.get(0), Binary.indirect(0)), Binary.body(Binary.i32(24)),
                Binary.body(Binary.get(0), Binary.indirect(3)))));
        for (int j = 0; j < 2; j++) {
            int asked = j;
            CHECKS.answers("element", () -> Binary.callWith(x, 0, asked, 1), 21);
            CHECKS.answers("element of a host", () -> Binary.callWith(x, 0, asked, 3), 0);
            CHECKS.answers("element of the same type", () -> Binary.callWith(x, 0, asked, 5), 24);
            CHECKS.same("element of another result", Binary.callTrap(x, 0, j, 2), 4);
            CHECKS.same("element of other parameters", Binary.callTrap(x, 0, j, 4), 4);
            for (int at : new int[] {0, 6, 7, 8, 199, 200, 201, 299, -1, Integer.MAX_VALUE, Integer.MIN_VALUE}) {
                CHECKS.same("no element " + at, Binary.callTrap(x, 0, j, at), 4);
            }
        }
        CHECKS.same("the host was called", x.count(7), 2);
    }

    private static void depth() {
        byte[] deep = Binary.module(Binary.types(Binary.type(NO, I32), Binary.type(NO)),
            Binary.imports(Binary.imported("h", "h", 0, Binary.u32(1))), Binary.functions(0, 0),
            Binary.tables(Binary.limits(1)), Binary.globals(Binary.global(I32, 1, ZERO)),
            Binary.exports(Binary.export("f", 0, 1), Binary.export("g", 3, 0), Binary.export("i", 0, 2)),
            Binary.elements(Binary.element(ZERO, 2)),
            Binary.codes(Binary.body(Binary.op(0x23, 0), ONE, ADD, Binary.op(0x24, 0), Binary.get(0),
                Binary.bytes(0x04, NO), Binary.get(0), ONE, SUB, Binary.call(1), ELSE, Binary.call(0), END),
                Binary.body(Binary.op(0x23, 0), ONE, ADD, Binary.op(0x24, 0), Binary.get(0), Binary.bytes(0x04, NO),
                    Binary.get(0), ONE, SUB, ZERO, Binary.indirect(0), END)));
        WasmMerge x = Binary.running(deep);
        CHECKS.same("100 calls, the last of a host", Binary.callTrap(x, 0, 0, 98), 0);
        CHECKS.answers("it was called", () -> x.count(7), 1);
        CHECKS.same("101 calls, the last of a host", Binary.callTrap(x, 0, 0, 99), 5);
        CHECKS.answers("it was not called", () -> x.count(7), 1);
        CHECKS.answers("100 were begun", () -> x.global(0, 1), 99 + 100);
        CHECKS.same("100 calls by the table", Binary.callTrap(x, 0, 2, 99), 0);
        CHECKS.same("101 calls by the table", Binary.callTrap(x, 0, 2, 100), 5);
        CHECKS.answers("100 each", () -> x.global(0, 1), 99 + 300);
        CHECKS.same("far too many", Binary.callTrap(x, 0, 2, -1), 5);
        CHECKS.same("and again 100", Binary.callTrap(x, 0, 2, 99), 0);
        WasmMerge y = Binary.running(single(Binary.type(NO), NOP));
        for (int i = 0; i < 120; i++) {
            CHECKS.same("calls behind each other", Binary.callTrap(y, 0, 0), 0);
        }
    }

    private static void steps() {
        // loop is begun once; get, const, add, tee, const, lt_s, br_if are seven in each turn
        int[][] cases = {{2857, 0, 0}, {2857, 1, 7}, {2856, 7, 0}, {2856, 8, 7}, {2858, 0, 7}};
        for (int[] one : cases) {
            WasmMerge x = Binary.running(single(Binary.type(NO), counted(one[0]), Binary.repeat(one[1], NOP)));
            CHECKS.same("turns " + one[0] + " and nops " + one[1], Binary.callTrap(x, 0, 0), one[2]);
            CHECKS.same("each call has its own", Binary.callTrap(x, 0, 0), one[2]);
        }
        WasmMerge last = Binary.running(single(Binary.type(NO), counted(2857), Binary.op(0)));
        CHECKS.same("the one too many is not done", Binary.callTrap(last, 0, 0), 7);
        WasmMerge inside = Binary.running(single(Binary.type(NO), counted(2856), Binary.repeat(6, NOP), Binary.op(0)));
        CHECKS.same("the last one is done", Binary.callTrap(inside, 0, 0), 1);
        WasmMerge ever = Binary.running(single(Binary.type(NO), Binary.bytes(0x03, NO), Binary.op(0x0c, 0), END));
        CHECKS.same("for ever", Binary.callTrap(ever, 0, 0), 7);
        WasmMerge stays = Binary.running(single(Binary.type(NO), Binary.bytes(0x03, NO), ZERO, ZERO,
            Binary.access(0x28, 2, 0), ONE, ADD, Binary.access(0x36, 2, 0), Binary.op(0x0c, 0), END));
        CHECKS.same("for ever with a memory", Binary.callTrap(stays, 0, 0), 7);
        CHECKS.same("what was written stays", stays.memory(0) + 256 * stays.memory(1), 2857);
    }

    /** else and end do not count; block, if and what they hold do. */
    private static void stepsWithout() {
        byte[] one = Binary.join(Binary.bytes(0x02, NO), END, ONE, Binary.bytes(0x04, NO), NOP, ELSE, NOP, NOP, END);
        byte[] other = Binary.join(Binary.bytes(0x02, NO), END, ZERO, Binary.bytes(0x04, NO), NOP, ELSE, NOP, NOP, END);
        // 1 + 7 * 2800 = 19601 before; each is a block, a constant, an if, and one nop or two
        WasmMerge x = Binary.running(single(Binary.type(NO), counted(2800), Binary.repeat(99, one), Binary.repeat(3, NOP)));
        CHECKS.same("20000 with else", Binary.callTrap(x, 0, 0), 0);
        WasmMerge y = Binary.running(single(Binary.type(NO), counted(2800), Binary.repeat(99, one), Binary.repeat(4, NOP)));
        CHECKS.same("20001 with else", Binary.callTrap(y, 0, 0), 7);
        WasmMerge z = Binary.running(single(Binary.type(NO), counted(2800), Binary.repeat(79, other), Binary.repeat(4, NOP)));
        CHECKS.same("20000 behind else", Binary.callTrap(z, 0, 0), 0);
        WasmMerge w = Binary.running(single(Binary.type(NO), counted(2800), Binary.repeat(79, other), Binary.repeat(5, NOP)));
        CHECKS.same("20001 behind else", Binary.callTrap(w, 0, 0), 7);
    }

    private static byte[] block(int type, byte[]... inside) {
        return Binary.join(Binary.bytes(0x02, type), Binary.join(inside), END);
    }

    private static void control() {
        result("block", 3, block(I32, Binary.i32(3)));
        result("br drops what is below", 4, block(I32, Binary.i32(1), Binary.i32(2), Binary.i32(4), Binary.op(0x0c, 0)));
        result("br leaves what is outside", 14, Binary.i32(10),
            block(I32, Binary.i32(1), Binary.i64(2), Binary.i32(4), Binary.op(0x0c, 0)), ADD);
        result("br out of two", 15, Binary.i32(10), block(I32, Binary.i32(1), block(NO, Binary.i32(1), Binary.i32(5),
            Binary.op(0x0c, 1)), DROP, Binary.i32(6)), ADD);
        result("br to the function", 5, Binary.i32(9), block(NO, Binary.i32(5), Binary.op(0x0c, 1)));
        result("return", 6, Binary.i32(9), block(NO, Binary.i32(8), Binary.i32(6), Binary.op(0x0f)));
        result("br to the function with nothing", 8, Binary.i32(5), Binary.call(1), Binary.i32(3), ADD);
        result("return with nothing", 8, Binary.i32(5), Binary.call(2), Binary.i32(3), ADD);
        result("end with nothing", 8, Binary.i32(5), Binary.call(3), Binary.i32(3), ADD);
        result("br_if that goes", 7, block(I32, Binary.i32(7), ONE, Binary.op(0x0d, 0), DROP, Binary.i32(8)));
        result("br_if that stays", 8, block(I32, Binary.i32(7), ZERO, Binary.op(0x0d, 0), DROP, Binary.i32(8)));
        result("br_if by -1", 7, block(I32, Binary.i32(7), Binary.i32(-1), Binary.op(0x0d, 0), DROP, Binary.i32(8)));
        result("if", 1, ONE, Binary.bytes(0x04, I32), Binary.i32(1), ELSE, Binary.i32(2), END);
        result("else", 2, ZERO, Binary.bytes(0x04, I32), Binary.i32(1), ELSE, Binary.i32(2), END);
        result("if by the least", 1, Binary.i32(Integer.MIN_VALUE), Binary.bytes(0x04, I32), Binary.i32(1), ELSE,
            Binary.i32(2), END);
        result("if without else", 5, Binary.i32(5), ZERO, Binary.bytes(0x04, NO), Binary.op(0), END);
        result("br out of if", 3, ONE, Binary.bytes(0x04, I32), Binary.i32(3), Binary.op(0x0c, 0), ELSE, Binary.i32(2), END);
        result("br out of else", 4, ZERO, Binary.bytes(0x04, I32), Binary.i32(3), ELSE, Binary.i32(4), Binary.op(0x0c, 0), END);
        result("if in else", 12, ZERO, Binary.bytes(0x04, I32), Binary.i32(3), ELSE, ONE, Binary.bytes(0x04, I32),
            Binary.i32(12), ELSE, Binary.i32(13), END, END);
        result("select", 1, Binary.i32(1), Binary.i32(2), Binary.i32(-4), Binary.op(0x1b));
        result("select the other", 2, Binary.i32(1), Binary.i32(2), ZERO, Binary.op(0x1b));
        result("tee", 8, Binary.i32(4), Binary.op(0x22, 1), Binary.get(1), ADD);
        result("locals are 0", 0, Binary.get(0), Binary.get(1), ADD);
        result("set", 9, Binary.i32(9), Binary.set(0), Binary.get(0));
        result("drop", 1, Binary.i32(1), Binary.i32(2), DROP);
        result("a loop that ends", 3, Binary.bytes(0x03, I32), Binary.get(0), ONE, ADD, Binary.op(0x22, 0), Binary.i32(3),
            Binary.op(0x48), Binary.op(0x0d, 0), Binary.get(0), END);
        result("a loop drops what is below", 23, Binary.i32(20), Binary.bytes(0x03, I32), Binary.i32(77), Binary.get(0),
            ONE, ADD, Binary.op(0x22, 0), Binary.i32(3), Binary.op(0x48), Binary.op(0x0d, 0), DROP, Binary.get(0), END, ADD);
        result("a loop by br", 5, Binary.bytes(0x02, NO), Binary.bytes(0x03, NO), Binary.i32(9), Binary.get(0), ONE, ADD,
            Binary.op(0x22, 0), Binary.i32(5), Binary.op(0x46), Binary.op(0x0d, 1), Binary.op(0x0c, 0), END, END,
            Binary.get(0));
    }

    /** Functions 1 to 3 leave something behind and end with br, with return, and by themselves. */
    private static void result(String what, long due, byte[]... instructions) {
        WasmMerge x = Binary.running(Binary.module(Binary.types(Binary.type(I32), Binary.type(NO)),
            Binary.functions(0, 1, 1, 1), Binary.exports(Binary.export("f", 0, 0)),
            Binary.codes(Binary.bodyWith(Binary.locals(2, I32), Binary.join(instructions)),
                Binary.body(Binary.i32(70), block(NO, Binary.i32(71), Binary.op(0x0c, 1)), DROP),
                Binary.body(Binary.i32(70), block(NO, Binary.i32(71), Binary.op(0x0f)), DROP),
                Binary.bodyWith(Binary.locals(3, I64), Binary.join(Binary.i32(71), DROP)))));
        CHECKS.answers(what, () -> x.call(0, 0), due);
    }

    private static void tables() {
        byte[] code = Binary.join(Binary.bytes(0x02, NO, 0x02, NO, 0x02, NO), Binary.get(0),
            Binary.labels(2, 1, 0, 1), END, Binary.i32(10), Binary.op(0x0f), END, Binary.i32(11), Binary.op(0x0f), END,
            Binary.i32(12));
        WasmMerge x = Binary.running(single(Binary.type(I32, I32), code));
        int[] ats = {0, 1, 2, 3, 4, 100, -1, Integer.MIN_VALUE, Integer.MAX_VALUE};
        int[] due = {11, 10, 11, 12, 12, 12, 12, 12, 12};
        for (int i = 0; i < ats.length; i++) {
            int at = ats[i];
            CHECKS.answers("br_table by " + at, () -> Binary.callWith(x, 0, 0, at), due[i]);
        }
        byte[] values = Binary.join(Binary.bytes(0x02, I32, 0x02, I32), Binary.i32(50), Binary.i32(5), Binary.get(0),
            Binary.labels(1, 0), END, Binary.i32(100), ADD, END);
        WasmMerge y = Binary.running(single(Binary.type(I32, I32), values));
        CHECKS.answers("br_table with a value", () -> Binary.callWith(y, 0, 0, 0), 105);
        CHECKS.answers("br_table with a value to the last", () -> Binary.callWith(y, 0, 0, 1), 5);
        WasmMerge most = Binary.running(single(Binary.type(I32, I32), Binary.bytes(0x02, NO), Binary.bytes(0x02, NO),
            Binary.get(0), Binary.labels(1, 1, 1, 1, 1, 1, 1, 1, 1, 1, 1, 1, 1, 1, 1, 1, 1, 1, 1, 1, 0), END,
            Binary.i32(4), Binary.op(0x0f), END, Binary.i32(3)));
        CHECKS.answers("br_table of twenty", () -> Binary.callWith(most, 0, 0, 18), 3);
        CHECKS.answers("the last of twenty but one", () -> Binary.callWith(most, 0, 0, 19), 4);
        CHECKS.answers("the last", () -> Binary.callWith(most, 0, 0, 20), 3);
    }

    private static void recursion() {
        byte[] fac = Binary.module(Binary.types(Binary.type(I64, I64)), Binary.functions(0),
            Binary.exports(Binary.export("fac", 0, 0)), Binary.codes(Binary.body(Binary.get(0), Binary.op(0x50),
                Binary.bytes(0x04, I64), Binary.i64(1), ELSE, Binary.get(0), Binary.get(0), Binary.i64(1),
                Binary.op(0x7d), Binary.call(0), Binary.op(0x7e), END)));
        WasmMerge x = Binary.running(fac);
        CHECKS.answers("20!", () -> Binary.callWith(x, 0, 0, 20), 2432902008176640000L);
        CHECKS.same("-1!", Binary.callTrap(x, 0, 0, -1), 5);
        byte[] wide = Binary.module(Binary.types(Binary.type(I32, I32)), Binary.functions(0),
            Binary.exports(Binary.export("f", 0, 0)), Binary.codes(Binary.bodyWith(Binary.locals(29, I64), Binary.join(
                Binary.get(0), Binary.bytes(0x04, I32), Binary.repeat(150, Binary.get(0)), Binary.get(0), ONE, SUB,
                Binary.call(0), Binary.repeat(150, ADD), ELSE, ZERO, END))));
        WasmMerge y = Binary.running(wide);
        CHECKS.answers("much on the stack", () -> Binary.callWith(y, 0, 0, 60), 150 * 61 * 30);
    }

    /** The MODULES whose code is longest for their bytes do not come near each other. */
    private static void longCode() {
        byte[] table = Binary.join(ONE, Binary.labels(0, new int[20]));
        byte[] jump = Binary.join(Binary.bytes(0x02, NO), ONE, Binary.op(0x0d, 0), END);
        byte[][] modules = new byte[6][];
        for (int k = 0; k < 6; k++) {
            byte[] long20 = Binary.repeat(120, Binary.join(Binary.bytes(0x02, NO), table, END));
            modules[k] = Binary.module(Binary.types(Binary.type(I32)), Binary.functions(0, 0),
                Binary.exports(Binary.export("f", 0, 0), Binary.export("g", 0, 1)),
                Binary.codes(Binary.body(Binary.i32(k)),
                    Binary.body(long20, Binary.repeat(50, jump), Binary.i32(10 + k))));
        }
        WasmMerge x = Binary.running(modules);
        for (int k = 0; k < 6; k++) {
            int module = k;
            CHECKS.answers("short code", () -> x.call(module, 0), k);
            CHECKS.answers("long code", () -> x.call(module, 1), 10 + k);
        }
        byte[][] dense = new byte[2][];
        for (int k = 0; k < 2; k++) {
            dense[k] = Binary.module(Binary.types(Binary.type(I32)), Binary.functions(0, 0),
                Binary.exports(Binary.export("f", 0, 0), Binary.export("g", 0, 1)),
                Binary.codes(Binary.body(Binary.i32(30 + k), Binary.op(0x0f), Binary.repeat(160,
                    Binary.labels(0, new int[20]))), Binary.body(Binary.i32(20 + k))));
        }
        WasmMerge y = Binary.running(dense);
        for (int k = 0; k < 2; k++) {
            int module = k;
            CHECKS.answers("dense code", () -> y.call(module, 0), 30 + k);
            CHECKS.answers("code behind it", () -> y.call(module, 1), 20 + k);
        }
    }

    /** What one MODULE writes another reads: a memory, a table and a global of all. */
    private static void shared() {
        byte[] first = Binary.module(Binary.types(Binary.type(I32)), Binary.functions(0),
            Binary.tables(Binary.limits(2)), Binary.memories(Binary.limits(1)),
            Binary.globals(Binary.global(I32, 1, Binary.i32(3))),
            Binary.exports(Binary.export("t", 1, 0), Binary.export("m", 2, 0), Binary.export("g", 3, 0),
                Binary.export("f", 0, 0)),
            Binary.elements(Binary.element(ZERO, 0)),
            Binary.codes(Binary.body(ZERO, Binary.access(0x28, 2, 0), Binary.op(0x23, 0), ADD)));
        byte[] second = Binary.module(Binary.types(Binary.type(NO), Binary.type(I32), Binary.type(I32, I32)),
            Binary.imports(Binary.imported("a", "m", 2, Binary.limits(1)),
                Binary.imported("a", "t", 1, Binary.table(Binary.limits(2))),
                Binary.imported("a", "g", 3, Binary.bytes(I32, 1)), Binary.imported("a", "f", 0, Binary.u32(1))),
            Binary.functions(1, 2, 1), Binary.globals(Binary.global(I32, 1, Binary.i32(1000))),
            Binary.exports(Binary.export("w", 0, 1), Binary.export("c", 0, 2), Binary.export("own", 3, 1)),
            Binary.elements(Binary.element(ONE, 3)),
            Binary.codes(Binary.body(ZERO, Binary.i32(500), Binary.access(0x36, 2, 0), Binary.i32(40),
                Binary.op(0x24, 0), Binary.call(0)), Binary.body(Binary.get(0), Binary.indirect(1)),
                Binary.body(Binary.op(0x23, 1))));
        WasmMerge x = Binary.running(first, second);
        CHECKS.answers("before", () -> x.call(0, 3), 3);
        CHECKS.answers("written by the second", () -> x.call(1, 0), 540);
        CHECKS.answers("read by the first", () -> x.call(0, 3), 540);
        CHECKS.answers("the global of both", () -> x.global(0, 2), 40);
        CHECKS.answers("the second's own", () -> x.global(1, 2), 1000);
        CHECKS.answers("the first's element", () -> Binary.callWith(x, 1, 1, 0), 540);
        CHECKS.answers("the second's element", () -> Binary.callWith(x, 1, 1, 1), 1000);
    }
}
