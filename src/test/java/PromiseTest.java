/** Promises 1 to 17, sentence by sentence: each answer and each exception on both sides of its edge. */
public final class PromiseTest {
    private static final Checks CHECKS = new Checks();
    private static final int I32 = Binary.I32;
    private static final int I64 = Binary.I64;
    private static final int NO = Binary.NO;
    private static final int LEAST = Integer.MIN_VALUE;
    private static final int GREATEST = Integer.MAX_VALUE;
    private static final Class<IllegalStateException> STATE = IllegalStateException.class;
    private static final Class<IllegalArgumentException> ARGUMENT = IllegalArgumentException.class;
    private static final Class<IndexOutOfBoundsException> INDEX = IndexOutOfBoundsException.class;
    private static final Class<UnsupportedOperationException> FAULT = UnsupportedOperationException.class;
    private static final Class<ArithmeticException> TRAP = ArithmeticException.class;
    private static final byte[] NULLARY = Binary.type(NO);
    private static final byte[] EMPTY = Modules.EMPTY;
    private static final byte[] ZERO = Binary.i32(0);
    private static final byte[] DEAD = Binary.op(0x00);
    private static final byte[] TRAPPING = Modules.function(NULLARY, DEAD);
    private static final byte[] QUIET = Modules.function(NULLARY);
    // imports a global that is not there
    private static final byte[] UNFIT = Modules.passing("z", "g", "g", 3, Binary.bytes(I32, 0));

    private PromiseTest() {
    }

    public static void main(String[] args) {
        threeBecomeOne();
        calls512();
        newObject();
        feedBytes();
        feedBeyond();
        endOfRow();
        endRefused();
        addModule();
        addDrops();
        addToSix();
        addFault();
        clearModules();
        mergeModules();
        mergeRefused();
        beginRun();
        beginRefused();
        arguments();
        callResult();
        callArguments();
        callRefused();
        faults();
        traps();
        takes();
        memoryBytes();
        globals();
        told();
        toldRefused();
        counts();
        countPages();
        countElements();
        countOutput();
        countRefused();
        checks();
        CHECKS.finish("PromiseTest");
    }

    private static WasmMerge fed(byte[]... modules) {
        WasmMerge x = new WasmMerge();
        for (byte[] module : modules) {
            Binary.feed(x, module);
        }
        return x;
    }

    private static void refusedAdd(WasmMerge x, byte[] module, int fault) {
        Binary.feed(x, module);
        CHECKS.throwing("add", x::add, FAULT);
        CHECKS.same("its FAULT", x.fault(), fault);
    }

    /** A custom section makes the MODULE so long. */
    private static byte[] ofLength(int length, byte[]... sections) {
        int rest = length - Binary.module(sections).length - 3;
        byte[] padding = Binary.join(Binary.bytes(0, rest & 127 | 128, rest >> 7), new byte[rest]);
        return Binary.module(Binary.join(sections), padding);
    }

    /** Number 0 is another type, function and global in each of them, and the table and memory of the last are all's. */
    private static void threeBecomeOne() {
        CHECKS.sentence("Modules of WebAssembly that are read, validated, and merged into one: types, functions, globals, "
            + "exports, a table and a memory get new numbers, what one imports and another exports becomes one; then the "
            + "merged one is run.");
        byte[] narrow = Binary.type(I32);
        byte[] wide = Binary.type(I64);
        byte[] first = Binary.module(Binary.types(narrow, wide),
            Binary.imports(Binary.imported("c", "t", 1, Binary.table(Binary.limits(2))),
                Binary.imported("c", "m", 2, Binary.limits(1))),
            Binary.functions(0, 1), Binary.globals(Binary.global(I32, 1, Binary.i32(10))),
            Binary.exports(Binary.export("f", 0, 0), Binary.export("g", 3, 0), Binary.export("h", 0, 1)),
            Binary.elements(Binary.element(ZERO, 1)),
            Binary.codes(Binary.body(Binary.i32(4), Binary.access(0x2d, 0, 0), Binary.op(0x23, 0), Binary.op(0x6a)),
                Binary.body(Binary.i32(1), Binary.indirect(0), Binary.op(0xac))));
        byte[] second = Binary.module(Binary.types(wide, narrow),
            Binary.imports(Binary.imported("a", "g", 3, Binary.bytes(I32, 1)), Binary.imported("a", "f", 0, Binary.u32(1)),
                Binary.imported("c", "t", 1, Binary.table(Binary.limits(0)))),
            Binary.functions(1, 0), Binary.globals(Binary.global(I64, 0, Binary.i64(300))),
            Binary.exports(Binary.export("g", 3, 1), Binary.export("f", 0, 2), Binary.export("a", 0, 0)),
            Binary.elements(Binary.element(Binary.i32(1), 1)),
            Binary.codes(Binary.body(Binary.i32(20), Binary.op(0x24, 0), Binary.call(0)),
                Binary.body(ZERO, Binary.indirect(0), Binary.op(0x23, 1), Binary.op(0x7c))));
        byte[] third = Binary.module(Binary.types(Binary.type(NO, I32), wide),
            Binary.imports(Binary.imported("b", "f", 0, Binary.u32(1)), Binary.imported("h", "h", 0, Binary.u32(0))),
            Binary.functions(1), Binary.tables(Binary.limits(2)), Binary.memories(Binary.limits(1)),
            Binary.globals(Binary.global(I32, 0, Binary.i32(5))),
            Binary.exports(Binary.export("t", 1, 0), Binary.export("m", 2, 0), Binary.export("r", 0, 2),
                Binary.export("g", 3, 0)),
            Binary.codes(Binary.body(Binary.op(0x23, 0), Binary.call(1), Binary.call(0))),
            Binary.data(Binary.datum(Binary.i32(4), 3)));
        WasmMerge x = Binary.with(first, second, third);
        CHECKS.answers("functions, one of the host", x::merge, 6);
        CHECKS.answers("types", () -> x.count(0), 3);
        CHECKS.answers("globals", () -> x.count(3), 3);
        CHECKS.answers("exports", () -> x.count(4), 10);
        CHECKS.answers("the table's elements", () -> x.count(6), 2);
        CHECKS.answers("begin", x::begin, 0);
        CHECKS.answers("the memory's pages", () -> x.count(5), 1);
        CHECKS.answers("f of the first", () -> x.call(0, 0), 13);
        CHECKS.answers("the same by the second", () -> x.call(1, 2), 13);
        CHECKS.answers("from the last to the second, by the table to the first and to the second", () -> x.call(2, 2), 323);
        CHECKS.answers("the host's number", x::take, 0);
        CHECKS.answers("its argument", x::take, 5);
        CHECKS.answers("the first's global", () -> x.global(0, 1), 20);
        CHECKS.answers("the second's global", () -> x.global(1, 0), 300);
        CHECKS.answers("the last's global", () -> x.global(2, 3), 5);
    }

    private static void calls512() {
        CHECKS.sentence("An object is used for at most 512 calls after it has been made");
        WasmMerge x = new WasmMerge();
        byte[] module = Modules.function(Binary.type(I32, I32), Binary.get(0), Binary.i32(3), Binary.op(0x6c));
        Binary.feed(x, module);
        x.add();
        x.merge();
        x.begin();
        // end, feed for each twenty bytes, and end; then these three
        int made = 2 + (module.length + 19) / 20 + 3;
        for (int n = 0; made + 2 <= 512; n++) {
            int value = n;
            CHECKS.answers("argument", () -> x.argument(value), 1);
            CHECKS.answers("call", () -> x.call(0, 0), 3L * n);
            made += 2;
        }
        CHECKS.same("how many were made", made, made % 2 == 0 ? 512 : 511);
    }

    private static void newObject() {
        CHECKS.sentence("No MODULES; THE ROW is empty.");
        CHECKS.throwing("MODULE 0", () -> new WasmMerge().told(0, 0), INDEX);
        CHECKS.answers("how many there were", () -> new WasmMerge().clear(), 0);
        CHECKS.throwing("merge", () -> new WasmMerge().merge(), STATE);
        CHECKS.throwing("the first byte", () -> new WasmMerge().end(1), ARGUMENT);
        CHECKS.answers("no bytes", () -> new WasmMerge().end(0), 0);
        CHECKS.answers("the first twenty", () -> new WasmMerge().feed(0, 0, 0, 0, 0), 20);
        CHECKS.answers("the first argument", () -> new WasmMerge().argument(0), 1);
        CHECKS.throwing("a MODULE of no bytes", () -> new WasmMerge().add(), FAULT);
    }

    /** Data of bytes that are all others, at each place of the twenty. */
    private static void feedBytes() {
        CHECKS.sentence("Twenty bytes come to THE ROW, the highest of a first: how many it has.");
        int[] content = new int[200];
        for (int i = 0; i < content.length; i++) {
            content[i] = i * 7 + 3 & 255;
        }
        for (int shift = 0; shift < 20; shift++) {
            byte[] custom = Binary.section(0, Binary.name(Modules.text(shift)));
            WasmMerge x = Binary.running(Binary.module(custom, Binary.memories(Binary.limits(1)),
                Binary.data(Binary.datum(ZERO, content))));
            for (int i = 0; i < content.length; i++) {
                int at = i;
                CHECKS.answers("byte " + i + " behind " + shift, () -> x.memory(at), content[i]);
            }
        }
        WasmMerge y = new WasmMerge();
        for (int many = 20; many <= 4000; many += 20) {
            int due = many;
            CHECKS.answers("how many", () -> y.feed(LEAST, GREATEST, -1, 0, 1), due);
        }
    }

    private static void feedBeyond() {
        CHECKS.sentence("IllegalStateException if they would be more than 4000.");
        for (int length : new int[] {0, 1, 3979, 3980, 3981, 3999, 4000}) {
            WasmMerge x = new WasmMerge();
            for (int i = 0; i < 200; i++) {
                x.feed(0, 0, 0, 0, 0);
            }
            x.end(length);
            if (length <= 3980) {
                CHECKS.answers("feed behind " + length, () -> x.feed(1, 2, 3, 4, 5), length + 20);
            } else {
                CHECKS.throwing("feed behind " + length, () -> x.feed(1, 2, 3, 4, 5), STATE);
                CHECKS.throwing("it brings no byte", () -> x.end(length + 1), ARGUMENT);
                CHECKS.answers("it takes no byte", () -> x.end(length), length);
            }
        }
        WasmMerge most = Binary.running(ofLength(3992, Binary.memories(Binary.limits(1)),
            Binary.data(Binary.datum(ZERO, 77))));
        CHECKS.answers("a MODULE of 3992 bytes", () -> most.memory(0), 77);
        int[] content = new int[3900];
        content[3899] = 78;
        byte[] head = Binary.module(Binary.memories(Binary.limits(1)), Binary.data(Binary.datum(ZERO, content)));
        byte[] custom = Binary.section(0, Binary.name(Modules.text(4000 - head.length - 3)));
        byte[] full = Binary.join(Binary.HEADER, custom, java.util.Arrays.copyOfRange(head, 8, head.length));
        CHECKS.same("a MODULE of as many bytes as may be", full.length, 4000);
        CHECKS.answers("its last byte", () -> Binary.running(full).memory(3899), 78);
    }

    private static void endOfRow() {
        CHECKS.sentence("THE ROW has only its first n bytes: n.");
        WasmMerge x = new WasmMerge();
        for (int i = 0; i < 200; i++) {
            x.feed(i, i, i, i, i);
        }
        for (int n : new int[] {4000, 3999, 3999, 21, 20, 19, 1, 0, 0}) {
            CHECKS.answers("end(" + n + ")", () -> x.end(n), n);
            CHECKS.throwing("one more is not there", () -> x.end(n + 1), ARGUMENT);
        }
        WasmMerge y = fed(Binary.join(EMPTY, Binary.bytes(99)));
        CHECKS.answers("end(8)", () -> y.end(8), 8);
        CHECKS.answers("what was behind is gone", y::add, 0);
        y.feed(0x0061736d, 0xffffffff, -1, -1, -1);
        CHECKS.answers("end(4)", () -> y.end(4), 4);
        CHECKS.answers("feed comes behind byte 4", () -> y.feed(0x01000000, 0, 0, 0, 0), 24);
        CHECKS.answers("end(8)", () -> y.end(8), 8);
        CHECKS.answers("both are one MODULE", y::add, 1);
    }

    private static void endRefused() {
        CHECKS.sentence("IllegalArgumentException if there are not so many, or n is below 0.");
        for (int length : new int[] {0, 20, 4000}) {
            WasmMerge x = new WasmMerge();
            for (int i = 0; i < length; i += 20) {
                x.feed(0, 0, 0, 0, 0);
            }
            for (int n : new int[] {-1, -2, LEAST, length + 1, length + 2, 4001, GREATEST}) {
                CHECKS.throwing("end(" + n + ") of " + length, () -> x.end(n), ARGUMENT);
            }
            CHECKS.answers("as many as there are", () -> x.end(length), length);
            CHECKS.answers("none", () -> x.end(0), 0);
            CHECKS.throwing("end(-1) of none", () -> x.end(-1), ARGUMENT);
        }
    }

    private static void addModule() {
        CHECKS.sentence("THE ROW (which is empty then, also with a FAULT) is MODULE k: k");
        WasmMerge x = new WasmMerge();
        byte[][] wrong = {Modules.MALFORMED, Modules.NOT_VALID, Modules.TOO_MUCH};
        for (int k = 0; k < 6; k++) {
            for (byte[] module : wrong) {
                Binary.feed(x, module);
                CHECKS.throwing("add with a FAULT", x::add, FAULT);
                CHECKS.throwing("the row is empty", () -> x.end(1), ARGUMENT);
            }
            int due = k;
            Binary.feed(x, Modules.global(I32, 0, Binary.i32(k)));
            CHECKS.answers("add", x::add, due);
            CHECKS.throwing("the row is empty", () -> x.end(1), ARGUMENT);
        }
        x.merge();
        x.begin();
        for (int k = 0; k < 6; k++) {
            int asked = k;
            CHECKS.answers("each is the one of its turn", () -> x.global(asked, 0), k);
        }
    }

    private static void addDrops() {
        CHECKS.sentence("THE MERGE and arguments are gone (by clear and merge, too).");
        WasmMerge x = Binary.running(QUIET);
        x.argument(1);
        Binary.feed(x, EMPTY);
        CHECKS.answers("THE RUN is there until add", () -> x.memory(0), -1);
        CHECKS.answers("THE MERGE is there until add", x::check, 0);
        CHECKS.answers("add", x::add, 1);
        CHECKS.throwing("no MERGE", x::check, STATE);
        CHECKS.throwing("no RUN", () -> x.memory(0), STATE);
        CHECKS.answers("no arguments", () -> x.argument(1), 1);
        WasmMerge y = Binary.running(QUIET);
        y.argument(1);
        CHECKS.answers("clear", y::clear, 1);
        CHECKS.throwing("no MERGE behind clear", y::check, STATE);
        CHECKS.throwing("no RUN behind clear", () -> y.memory(0), STATE);
        CHECKS.answers("no arguments behind clear", () -> y.argument(1), 1);
        WasmMerge z = Binary.running(QUIET);
        z.argument(1);
        CHECKS.answers("merge", z::merge, 1);
        CHECKS.answers("a new MERGE", z::check, 0);
        CHECKS.throwing("no RUN behind merge", () -> z.memory(0), STATE);
        CHECKS.answers("no arguments behind merge", () -> z.argument(1), 1);
    }

    private static void addToSix() {
        CHECKS.sentence("IllegalStateException if there are 6 (THE ROW stays)");
        WasmMerge x = Binary.running(EMPTY, EMPTY, EMPTY, EMPTY, EMPTY, EMPTY);
        Binary.feed(x, QUIET);
        int length = QUIET.length;
        CHECKS.throwing("a seventh", x::add, STATE);
        CHECKS.throwing("a seventh again", x::add, STATE);
        CHECKS.answers("THE ROW stays", () -> x.end(length), length);
        CHECKS.answers("THE RUN stays", () -> x.memory(0), -1);
        CHECKS.answers("clear", x::clear, 6);
        CHECKS.answers("what stayed is MODULE 0", x::add, 0);
        CHECKS.answers("it has a function", () -> x.told(0, 2), 1);
        x.end(0);
        WasmMerge y = Binary.with(EMPTY, EMPTY, EMPTY, EMPTY, EMPTY);
        Binary.feed(y, EMPTY);
        CHECKS.answers("a sixth", y::add, 5);
        CHECKS.throwing("an empty seventh", y::add, STATE);
    }

    private static void addFault() {
        CHECKS.sentence("UnsupportedOperationException for a FAULT.");
        WasmMerge x = Binary.with(EMPTY);
        refusedAdd(x, Modules.MALFORMED, 1);
        refusedAdd(x, Modules.NOT_VALID, 2);
        refusedAdd(x, Modules.TOO_MUCH, 3);
        refusedAdd(x, Binary.NOTHING, 1);
        Binary.feed(x, EMPTY);
        CHECKS.answers("none of them is a MODULE", x::add, 1);
        CHECKS.answers("two are", x::clear, 2);
        // nothing of a body that was not valid is seen in the next one
        byte[] open = Binary.bytes(0x02, I32);
        Binary.feed(x, Modules.function(Binary.type(I32), Binary.i32(1), Binary.i32(2), open, Binary.i32(3),
            Binary.i64(4),
            Binary.op(0x0b)));
        CHECKS.throwing("a body that is not valid", x::add, FAULT);
        Binary.feed(x, Modules.function(Binary.type(I32), Binary.i32(10), open, Binary.i32(1), Binary.i32(5),
            Binary.op(0x0c, 0), Binary.op(0x0b), Binary.op(0x6a)));
        CHECKS.answers("a body behind it", x::add, 0);
        x.merge();
        x.begin();
        CHECKS.answers("what it gives", () -> x.call(0, 0), 15);
    }

    private static void clearModules() {
        CHECKS.sentence("No MODULES any more: how many there were.");
        WasmMerge x = new WasmMerge();
        for (int many = 0; many <= 6; many++) {
            for (int k = 0; k < many; k++) {
                Binary.feed(x, QUIET);
                x.add();
            }
            int due = many;
            CHECKS.answers("clear of " + many, x::clear, due);
            CHECKS.answers("clear of none", x::clear, 0);
            CHECKS.throwing("no MODULE 0", () -> x.told(0, 0), INDEX);
            CHECKS.throwing("nothing to merge", x::merge, STATE);
        }
        x.feed(1, 2, 3, 4, 5);
        CHECKS.answers("clear", x::clear, 0);
        CHECKS.answers("THE ROW stays", () -> x.end(20), 20);
    }

    private static void mergeModules() {
        CHECKS.sentence("The MODULES become one: how many functions that has.");
        CHECKS.answers("no functions", () -> Binary.with(EMPTY).merge(), 0);
        CHECKS.answers("one", () -> Binary.with(QUIET).merge(), 1);
        CHECKS.answers("one of the HOST", () -> Binary.with(Modules.passing("h", "h", "h", 0, Binary.u32(0))).merge(),
            1);
        CHECKS.answers("one that another imports", () -> Binary.with(QUIET,
            Modules.passing("a", "f", "f", 0, Binary.u32(0))).merge(), 1);
        byte[] sixty = Binary.module(Binary.types(NULLARY),
            Binary.imports(Binary.times(30, Binary.imported("h", "h", 0, Binary.u32(0)))),
            Binary.functions(new int[30]), Binary.codes(Binary.times(30, Binary.body())));
        CHECKS.answers("six times sixty", () -> Binary.with(Binary.times(6, sixty)).merge(), 360);
        WasmMerge x = Binary.with(QUIET);
        for (int k = 1; k <= 5; k++) {
            int due = k;
            CHECKS.answers("merge", x::merge, due);
            CHECKS.answers("merge again", x::merge, due);
            Binary.feed(x, QUIET);
            x.add();
        }
    }

    private static void mergeRefused() {
        CHECKS.sentence("IllegalStateException without MODULES; UnsupportedOperationException for a LINK FAULT (4 "
            + "before 5).");
        WasmMerge x = new WasmMerge();
        CHECKS.throwing("in a new object", x::merge, STATE);
        refusedAdd(x, Modules.NOT_VALID, 2);
        CHECKS.throwing("behind a FAULT", x::merge, STATE);
        Binary.feed(x, UNFIT);
        CHECKS.throwing("before add", x::merge, STATE);
        x.add();
        CHECKS.throwing("LINK FAULT 4", x::merge, FAULT);
        CHECKS.same("fault", x.fault(), 4);
        CHECKS.throwing("LINK FAULT 4 again", x::merge, FAULT);
        x.clear();
        CHECKS.throwing("behind clear", x::merge, STATE);
        byte[] memory = Modules.memory(Binary.limits(0));
        WasmMerge y = Binary.with(memory, memory);
        CHECKS.throwing("LINK FAULT 5", y::merge, FAULT);
        CHECKS.same("fault", y.fault(), 5);
        Binary.feed(y, UNFIT);
        y.add();
        CHECKS.throwing("both", y::merge, FAULT);
        CHECKS.same("4 before 5", y.fault(), 4);
    }

    private static void beginRun() {
        CHECKS.sentence("THE RUN begins (anew; OUTPUT is empty): 0.");
        WasmMerge x = Binary.merged(Binary.module(Binary.types(NULLARY),
            Binary.imports(Binary.imported("h", "h", 0, Binary.u32(0))), Binary.functions(0),
            Binary.memories(Binary.limits(1)), Binary.globals(Binary.global(I32, 1, Binary.i32(3))),
            Binary.exports(Binary.export("f", 0, 1), Binary.export("g", 3, 0)),
            Binary.codes(Binary.body(Binary.call(0), Binary.i32(9), Binary.op(0x24, 0), ZERO, Binary.i32(8),
                Binary.access(0x3a, 0, 0), Binary.i32(1), Binary.bytes(0x40, 0), Binary.op(0x1a), Binary.i32(65536),
                Binary.i32(7), Binary.access(0x3a, 0, 65535)))));
        for (int turn = 0; turn < 3; turn++) {
            CHECKS.answers("begin", x::begin, 0);
            CHECKS.same("OUTPUT", x.count(7), 0);
            CHECKS.answers("nothing to take", x::take, 0);
            CHECKS.answers("the global", () -> x.global(0, 1), 3);
            CHECKS.answers("the memory", () -> x.memory(0), 0);
            CHECKS.same("its pages", x.count(5), 1);
            CHECKS.answers("call", () -> x.call(0, 0), 0);
            CHECKS.same("OUTPUT then", x.count(7), 1);
            CHECKS.answers("the global then", () -> x.global(0, 1), 9);
            CHECKS.answers("the memory then", () -> x.memory(0), 8);
            CHECKS.answers("the memory's end then", () -> x.memory(131071), 7);
        }
        x.argument(1);
        CHECKS.answers("begin", x::begin, 0);
        CHECKS.answers("an argument of the next call stays", () -> x.argument(2), 2);
    }

    private static void beginRefused() {
        CHECKS.sentence("IllegalStateException without THE MERGE; ArithmeticException for a TRAP (it goes on all "
            + "the same).");
        WasmMerge x = new WasmMerge();
        CHECKS.throwing("in a new object", x::begin, STATE);
        Binary.feed(x, EMPTY);
        x.add();
        CHECKS.throwing("before merge", x::begin, STATE);
        x.merge();
        CHECKS.answers("behind merge", x::begin, 0);
        Binary.feed(x, UNFIT);
        x.add();
        CHECKS.throwing("behind add", x::begin, STATE);
        CHECKS.throwing("merge", x::merge, FAULT);
        CHECKS.throwing("behind a LINK FAULT", x::begin, STATE);
        x.clear();
        CHECKS.throwing("behind clear", x::begin, STATE);
        WasmMerge y = Binary.merged(Binary.module(Binary.types(NULLARY, Binary.type(I32)), Binary.functions(0, 1),
            Binary.exports(Binary.export("f", 0, 1)), Binary.start(0), Binary.codes(Binary.body(DEAD),
            Binary.body(Binary.i32(6)))));
        CHECKS.throwing("a TRAP", y::begin, TRAP);
        CHECKS.answers("THE RUN goes on", () -> y.call(0, 0), 6);
        CHECKS.answers("THE MERGE, too", y::check, 0);
        CHECKS.throwing("a TRAP again", y::begin, TRAP);
        CHECKS.same("trap", y.trap(), 1);
    }

    private static void arguments() {
        CHECKS.sentence("v is one more argument of the next call: how many. IllegalStateException if there are 6.");
        long[] values = {Long.MIN_VALUE, Long.MAX_VALUE, -1, 0, 0x80000000L, 7};
        int[] types = {I64, I64, I64, I64, I64, I64};
        for (int which = 0; which < 6; which++) {
            WasmMerge x = Binary.running(Modules.function(Binary.type(I64, types), Binary.get(which)));
            for (int n = 0; n < 6; n++) {
                long value = values[n];
                CHECKS.answers("argument " + n, () -> x.argument(value), n + 1);
            }
            CHECKS.throwing("a seventh", () -> x.argument(99), STATE);
            CHECKS.throwing("a seventh again", () -> x.argument(98), STATE);
            CHECKS.answers("argument " + which + " stays", () -> x.call(0, 0), values[which]);
            CHECKS.answers("none are left", () -> x.argument(1), 1);
        }
        // without MODULES, without THE MERGE and without THE RUN, too
        WasmMerge y = new WasmMerge();
        CHECKS.answers("in a new object", () -> y.argument(1), 1);
        CHECKS.answers("clear", y::clear, 0);
        CHECKS.answers("they are gone", () -> y.argument(1), 1);
    }

    private static void callResult() {
        CHECKS.sentence("its result (of i32 as an int), 0 without.");
        long[] values = {0, 1, -1, GREATEST, LEAST, 0x7fffffffffffffffL, Long.MIN_VALUE, 0xffffffffL, 0x80000000L};
        for (long value : values) {
            CHECKS.answers("i64 " + value, () -> Binary.running(Modules.function(Binary.type(I64),
                Binary.i64(value))).call(0, 0), value);
            CHECKS.answers("i32 " + (int) value, () -> Binary.running(Modules.function(Binary.type(I32),
                Binary.i32((int) value))).call(0, 0), (int) value);
            CHECKS.answers("i32 of i64 " + value, () -> Binary.running(Modules.function(Binary.type(I32),
                Binary.i64(value), Binary.op(0xa7))).call(0, 0), (int) value);
        }
        CHECKS.answers("none", () -> Binary.running(QUIET).call(0, 0), 0);
        // nothing of the call before is seen
        WasmMerge x = Binary.running(Binary.module(Binary.types(Binary.type(I64), NULLARY), Binary.functions(0, 1),
            Binary.exports(Binary.export("f", 0, 0), Binary.export("n", 0, 1)),
            Binary.codes(Binary.body(Binary.i64(-5)), Binary.body())));
        CHECKS.answers("a result", () -> x.call(0, 0), -5);
        CHECKS.answers("none behind it", () -> x.call(0, 1), 0);
    }

    private static void callArguments() {
        CHECKS.sentence("is called with the arguments (of i32 the low 32 bits), which are gone by that (not if it "
            + "is not called)");
        WasmMerge x = Binary.running(Modules.function(Binary.type(I32, I32), Binary.get(0)));
        long[] values = {0x7fffffffL, 0x80000000L, 0xffffffffL, 0x100000000L, 0x100000001L, -1, Long.MIN_VALUE,
            Long.MAX_VALUE,
            0xffffffff00000000L, 0xffffffff7fffffffL};
        for (long value : values) {
            CHECKS.answers("argument " + value, () -> x.argument(value), 1);
            CHECKS.answers("its low 32 bits", () -> x.call(0, 0), (int) value);
        }
        WasmMerge seen = Binary.running(Modules.function(Binary.type(I64, I32), Binary.get(0), Binary.op(0xad)));
        CHECKS.answers("no others", () -> Binary.callWith(seen, 0, 0, -1), 0xffffffffL);
        CHECKS.throwing("no arguments", () -> x.call(0, 0), ARGUMENT);
        x.argument(1);
        x.argument(2);
        CHECKS.throwing("one too many", () -> x.call(0, 0), ARGUMENT);
        CHECKS.throwing("no such export", () -> x.call(0, 1), INDEX);
        CHECKS.answers("they stay", () -> x.argument(3), 3);
        WasmMerge y = Binary.running(Modules.function(Binary.type(NO, I32), DEAD));
        y.argument(1);
        CHECKS.throwing("a TRAP", () -> y.call(0, 0), TRAP);
        CHECKS.answers("they are gone by it", () -> y.argument(1), 1);
    }

    /** Module 0 exports a function of n parameters as export n; module 1 one of each sort. */
    private static WasmMerge ofAllSorts() {
        byte[][] types = new byte[7][];
        byte[][] exports = new byte[7][];
        for (int n = 0; n <= 6; n++) {
            int[] parameters = new int[n];
            java.util.Arrays.fill(parameters, I32);
            types[n] = Binary.type(NO, parameters);
            exports[n] = Binary.export("f" + n, 0, n);
        }
        return Binary.merged(Binary.module(Binary.types(types), Binary.functions(0, 1, 2, 3, 4, 5, 6),
            Binary.exports(exports),
            Binary.codes(Binary.times(7, Binary.body()))), Binary.module(Binary.types(NULLARY), Binary.functions(0),
            Binary.tables(Binary.limits(1)), Binary.memories(Binary.limits(1)), Binary.globals(Binary.global(I32, 0,
            ZERO)),
            Binary.exports(Binary.export("f", 0, 0), Binary.export("t", 1, 0), Binary.export("m", 2, 0),
            Binary.export("g", 3, 0)),
            Binary.codes(Binary.body())), EMPTY);
    }

    private static void callRefused() {
        CHECKS.sentence("IllegalStateException without THE RUN; IndexOutOfBoundsException if there is no such export; "
            + "IllegalArgumentException if it is no function, or has not so many parameters; ArithmeticException "
            + "for a TRAP.");
        WasmMerge x = ofAllSorts();
        CHECKS.throwing("before begin", () -> x.call(1, 0), STATE);
        x.begin();
        for (int k : new int[] {LEAST, -1, 3, 5, 6, 7, GREATEST}) {
            CHECKS.throwing("MODULE " + k, () -> x.call(k, 0), INDEX);
        }
        for (int j : new int[] {LEAST, -1, 7, 8, 39, 40, 41, GREATEST}) {
            CHECKS.throwing("export " + j, () -> x.call(0, j), INDEX);
        }
        CHECKS.throwing("export 4 of four", () -> x.call(1, 4), INDEX);
        CHECKS.throwing("export 0 of none", () -> x.call(2, 0), INDEX);
        for (int j = 1; j < 4; j++) {
            int asked = j;
            CHECKS.throwing("sort " + j, () -> x.call(1, asked), ARGUMENT);
        }
        for (int given = 0; given <= 6; given++) {
            for (int n = 0; n <= 6; n++) {
                int wanted = n;
                if (n != given) {
                    CHECKS.throwing(given + " arguments for " + n, () -> x.call(0, wanted), ARGUMENT);
                }
            }
            int right = given;
            CHECKS.answers(given + " arguments for " + given, () -> x.call(0, right), 0);
            for (int i = 0; i <= given && given < 6; i++) {
                x.argument(i);
            }
        }
        x.merge();
        CHECKS.throwing("behind merge", () -> x.call(1, 0), STATE);
        CHECKS.throwing("a TRAP", () -> Binary.running(TRAPPING).call(0, 0), TRAP);
        // forty exports, all of one function
        WasmMerge y = Binary.running(Binary.module(Binary.types(NULLARY), Binary.functions(0),
            Binary.exports(Modules.exportsOf(40, 0, 0)), Binary.codes(Binary.body())));
        CHECKS.answers("export 39 of forty", () -> y.call(0, 39), 0);
        CHECKS.throwing("export 40 of forty", () -> y.call(0, 40), INDEX);
    }

    private static void faults() {
        CHECKS.sentence("The latest FAULT or LINK FAULT; 0 if the latest add or merge had none.");
        WasmMerge x = new WasmMerge();
        CHECKS.same("in a new object", x.fault(), 0);
        refusedAdd(x, Modules.TOO_MUCH, 3);
        refusedAdd(x, Modules.NOT_VALID, 2);
        refusedAdd(x, Modules.MALFORMED, 1);
        CHECKS.same("it stays", x.fault(), 1);
        CHECKS.throwing("merge without MODULES", x::merge, STATE);
        CHECKS.same("it stays", x.fault(), 1);
        Binary.feed(x, EMPTY);
        CHECKS.same("it stays until add", x.fault(), 1);
        x.add();
        CHECKS.same("behind add", x.fault(), 0);
        refusedAdd(x, Modules.NOT_VALID, 2);
        x.merge();
        CHECKS.same("behind merge", x.fault(), 0);
        Binary.feed(x, UNFIT);
        x.add();
        CHECKS.throwing("merge", x::merge, FAULT);
        CHECKS.same("a LINK FAULT", x.fault(), 4);
        x.clear();
        CHECKS.same("it stays behind clear", x.fault(), 4);
        for (int k = 0; k < 6; k++) {
            Binary.feed(x, EMPTY);
            x.add();
        }
        CHECKS.same("behind six", x.fault(), 0);
        Binary.feed(x, Modules.MALFORMED);
        CHECKS.throwing("a seventh", x::add, STATE);
        CHECKS.same("behind a seventh, which was not looked at", x.fault(), 0);
    }

    private static void traps() {
        CHECKS.sentence("The latest TRAP; 0 if the latest begin or call had none.");
        WasmMerge x = new WasmMerge();
        CHECKS.same("in a new object", x.trap(), 0);
        Binary.feed(x, Binary.module(Binary.types(NULLARY, Binary.type(NO, I32)), Binary.functions(0, 0, 0, 1),
            Binary.memories(Binary.limits(0)),
            Binary.exports(Binary.export("1", 0, 0), Binary.export("0", 0, 1), Binary.export("3", 0, 2),
            Binary.export("p", 0, 3)),
            Binary.codes(Binary.body(DEAD), Binary.body(), Binary.body(ZERO, Binary.access(0x28, 0, 0),
            Binary.op(0x1a)),
                Binary.body())));
        x.add();
        x.merge();
        CHECKS.same("before begin", x.trap(), 0);
        x.begin();
        CHECKS.throwing("TRAP 1", () -> x.call(0, 0), TRAP);
        CHECKS.same("trap", x.trap(), 1);
        CHECKS.throwing("TRAP 3", () -> x.call(0, 2), TRAP);
        CHECKS.same("the latest", x.trap(), 3);
        CHECKS.throwing("no such export", () -> x.call(0, 4), INDEX);
        CHECKS.throwing("no arguments", () -> x.call(0, 3), ARGUMENT);
        CHECKS.same("it stays", x.trap(), 3);
        CHECKS.answers("a call without one", () -> x.call(0, 1), 0);
        CHECKS.same("none", x.trap(), 0);
        CHECKS.throwing("TRAP 1", () -> x.call(0, 0), TRAP);
        x.begin();
        CHECKS.same("none by begin", x.trap(), 0);
        CHECKS.throwing("TRAP 1", () -> x.call(0, 0), TRAP);
        x.merge();
        CHECKS.same("it stays behind merge", x.trap(), 1);
        CHECKS.throwing("call without THE RUN", () -> x.call(0, 1), STATE);
        CHECKS.same("it stays behind that", x.trap(), 1);
        x.clear();
        CHECKS.throwing("begin without THE MERGE", x::begin, STATE);
        CHECKS.same("it stays behind that, too", x.trap(), 1);
    }

    private static void takes() {
        CHECKS.sentence("The next number that was written to OUTPUT and not taken; 0 without.");
        CHECKS.answers("in a new object", () -> new WasmMerge().take(), 0);
        WasmMerge x = Binary.running(Modules.passing(Binary.type(NO, I64), "h", "h", "h", 0, Binary.u32(0)));
        CHECKS.answers("before any", x::take, 0);
        for (long value : new long[] {5, Long.MIN_VALUE, 0, -1}) {
            Binary.callWith(x, 0, 0, value);
        }
        for (long number : new long[] {0, 5, 0, Long.MIN_VALUE, 0, 0, 0, -1, 0, 0}) {
            CHECKS.answers("take", x::take, number);
        }
        Binary.callWith(x, 0, 0, 6);
        CHECKS.answers("its number", x::take, 0);
        x.begin();
        CHECKS.answers("what was not taken is gone in a new RUN", x::take, 0);
        CHECKS.same("nothing is there", x.count(7), 0);
    }

    private static void memoryBytes() {
        CHECKS.sentence("Byte at of the memory (0 to 255); -1 if there is none. IllegalStateException without THE "
            + "RUN.");
        int[] ats = {LEAST, -1, 0, 1, 65534, 65535, 65536, 131070, 131071, 131072, GREATEST};
        for (int pages = -1; pages <= 2; pages++) {
            int size = Math.max(pages, 0) * 65536;
            WasmMerge x = Binary.running(pages < 0 ? EMPTY : Modules.memory(Binary.limits(pages)));
            for (int at : ats) {
                CHECKS.answers("byte " + at + " of " + pages + " pages", () -> x.memory(at),
                    at >= 0 && at < size ? 0 : -1);
            }
        }
        int[] all = new int[256];
        for (int i = 0; i < 256; i++) {
            all[i] = i;
        }
        WasmMerge y = Binary.merged(Binary.module(Binary.memories(Binary.limits(1)), Binary.data(Binary.datum(ZERO,
            all))));
        CHECKS.throwing("before begin", () -> y.memory(0), STATE);
        y.begin();
        for (int i = 0; i < 256; i++) {
            int at = i;
            CHECKS.answers("byte " + i, () -> y.memory(at), i);
        }
        y.merge();
        CHECKS.throwing("behind merge", () -> y.memory(0), STATE);
        y.clear();
        CHECKS.throwing("behind clear", () -> y.memory(0), STATE);
        CHECKS.throwing("in a new object", () -> new WasmMerge().memory(-1), STATE);
    }

    private static void globals() {
        CHECKS.sentence("Export j of MODULE k, a global: its value (of i32 as an int). Thrown as by call.");
        WasmMerge x = ofAllSorts();
        CHECKS.throwing("before begin", () -> x.global(1, 3), STATE);
        x.begin();
        CHECKS.answers("a global", () -> x.global(1, 3), 0);
        for (int k : new int[] {LEAST, -1, 3, 5, 6, GREATEST}) {
            CHECKS.throwing("MODULE " + k, () -> x.global(k, 3), INDEX);
        }
        for (int j : new int[] {LEAST, -1, 4, 40, GREATEST}) {
            CHECKS.throwing("export " + j, () -> x.global(1, j), INDEX);
        }
        CHECKS.throwing("export 0 of none", () -> x.global(2, 0), INDEX);
        for (int j = 0; j < 3; j++) {
            int asked = j;
            CHECKS.throwing("sort " + j, () -> x.global(1, asked), ARGUMENT);
        }
        x.argument(1);
        CHECKS.answers("arguments are nothing to it", () -> x.global(1, 3), 0);
        CHECKS.answers("and they stay", () -> x.argument(2), 2);
        x.clear();
        CHECKS.throwing("behind clear", () -> x.global(1, 3), STATE);
        long[] values = {0, -1, GREATEST, LEAST, 0x80000000L, Long.MAX_VALUE, Long.MIN_VALUE};
        WasmMerge y = Binary.running(Binary.module(Binary.types(Binary.type(NO, I32, I64)), Binary.functions(0),
            Binary.globals(Binary.global(I32, 1, ZERO), Binary.global(I64, 1, Binary.i64(0))),
            Binary.exports(Binary.export("i", 3, 0), Binary.export("l", 3, 1), Binary.export("f", 0, 0)),
            Binary.codes(Binary.body(Binary.get(0), Binary.op(0x24, 0), Binary.get(1), Binary.op(0x24, 1)))));
        for (long value : values) {
            Binary.callWith(y, 0, 2, value, value);
            CHECKS.answers("i32 " + value, () -> y.global(0, 0), (int) value);
            CHECKS.answers("i64 " + value, () -> y.global(0, 1), value);
        }
    }

    /** MODULE 0 is empty, 1 has one of each, 2 as many as may be. */
    private static void told() {
        CHECKS.sentence("Of MODULE k how many 0: types, 1: imports, 2: functions (with imported ones), 3: globals "
            + "(likewise), "
            + "4: exports, 5: elements, 6: data, 7: 1 if it has a start; 10 + j: the sort of its export j (0 "
            + "function, 1 table, "
            + "2 memory, 3 global).");
        byte[] host = Binary.imported("h", "h", 0, Binary.u32(0));
        WasmMerge x = Binary.with(EMPTY,
            Binary.module(Binary.types(NULLARY), Binary.imports(host), Binary.functions(0),
            Binary.tables(Binary.limits(1)),
                Binary.memories(Binary.limits(1)), Binary.globals(Binary.global(I32, 0, ZERO)),
                Binary.exports(Binary.export("g", 3, 0), Binary.export("m", 2, 0), Binary.export("t", 1, 0),
                Binary.export("f", 0, 0)),
                Binary.start(0), Binary.elements(Binary.element(ZERO, 0, 1, 0)), Binary.codes(Binary.body()),
                Binary.data(Binary.datum(ZERO, 1, 2, 3))),
            Binary.module(Binary.types(Binary.times(40, NULLARY)), Binary.imports(host),
                Binary.functions(new int[59]), Binary.tables(Binary.limits(1)), Binary.memories(Binary.limits(1)),
                Binary.globals(Binary.times(30, Binary.global(I32, 0, ZERO))), Binary.exports(Modules.exportsOf(40, 3,
                29)),
                Binary.elements(Binary.times(20, Binary.element(ZERO))), Binary.codes(Binary.times(59, Binary.body())),
                Binary.data(Binary.times(20, Binary.datum(ZERO)))),
            Binary.module(Binary.imports(Binary.times(30, Binary.imported("h", "g", 3, Binary.bytes(I32, 0))))));
        int[][] due = {{0, 0, 0, 0, 0, 0, 0, 0}, {1, 1, 2, 1, 4, 1, 1, 1}, {40, 1, 60, 30, 40, 20, 20, 0}, {0, 30, 0,
            30, 0, 0, 0, 0}};
        for (int k = 0; k < 4; k++) {
            for (int what = 0; what < 8; what++) {
                int module = k;
                int asked = what;
                CHECKS.answers("told(" + k + ", " + what + ")", () -> x.told(module, asked), due[k][what]);
            }
        }
        for (int j = 0; j < 4; j++) {
            int asked = 10 + j;
            CHECKS.answers("told(1, " + asked + ")", () -> x.told(1, asked), 3 - j);
        }
        CHECKS.answers("told(2, 10)", () -> x.told(2, 10), 3);
        CHECKS.answers("told(2, 49)", () -> x.told(2, 49), 3);
    }

    private static void toldRefused() {
        CHECKS.sentence("IndexOutOfBoundsException if there is no MODULE k; IllegalArgumentException for others.");
        WasmMerge x = Binary.with(EMPTY, QUIET, Binary.module(Binary.globals(Binary.global(I32, 0, ZERO)),
            Binary.exports(Modules.exportsOf(40, 3, 0))));
        for (int k : new int[] {LEAST, -1, 3, 4, 5, 6, GREATEST}) {
            CHECKS.throwing("MODULE " + k, () -> x.told(k, 0), INDEX);
            CHECKS.throwing("MODULE " + k + ", and no such what", () -> x.told(k, 8), INDEX);
        }
        for (int what : new int[] {LEAST, -2, -1, 8, 9, GREATEST, GREATEST - 9, LEAST + 10}) {
            for (int k = 0; k < 3; k++) {
                int module = k;
                CHECKS.throwing("told(" + k + ", " + what + ")", () -> x.told(module, what), ARGUMENT);
            }
        }
        CHECKS.throwing("the first export of none", () -> x.told(0, 10), ARGUMENT);
        CHECKS.answers("the first export of one", () -> x.told(1, 10), 0);
        CHECKS.throwing("the second export of one", () -> x.told(1, 11), ARGUMENT);
        CHECKS.answers("the last export of forty", () -> x.told(2, 49), 3);
        CHECKS.throwing("one more than forty", () -> x.told(2, 50), ARGUMENT);
    }

    private static void counted(String what, WasmMerge x, int number, int due) {
        CHECKS.answers(what, () -> x.count(number), due);
    }

    private static void counts() {
        CHECKS.sentence("Of THE MERGE how many 0: types (of all MODULES, each once), 1: imports of the HOST (each "
            + "of each "
            + "MODULE), 2: functions (with these), 3: globals, 4: exports (of all MODULES)");
        WasmMerge none = Binary.merged(EMPTY);
        for (int what = 0; what <= 4; what++) {
            counted("count(" + what + ") of nothing", none, what, 0);
        }
        byte[] module = Binary.module(Binary.types(NULLARY, Binary.type(I32), NULLARY, Binary.type(NO, I32)),
            Binary.imports(Binary.times(2, Binary.imported("h", "h", 0, Binary.u32(0)))), Binary.functions(1),
            Binary.globals(Binary.global(I32, 0, ZERO)), Binary.exports(Binary.export("f", 0, 2), Binary.export("g", 3,
            0)),
            Binary.codes(Binary.body(ZERO)));
        for (int many = 1; many <= 6; many++) {
            WasmMerge x = Binary.merged(Binary.times(many, module));
            int[] due = {3, 2 * many, 3 * many, many, 2 * many};
            for (int what = 0; what <= 4; what++) {
                counted("count(" + what + ") of " + many, x, what, due[what]);
            }
        }
        // types that only differ in the order, the number or the place of what they hold
        byte[][] types = {NULLARY, Binary.type(I32), Binary.type(I64), Binary.type(NO, I32), Binary.type(NO, I64),
            Binary.type(NO, I32, I64), Binary.type(NO, I64, I32), Binary.type(I32, I64), Binary.type(I64, I32),
            Binary.type(I32, I32, I32, I32, I32, I32, I32), Binary.type(I32, I32, I32, I32, I32, I32),
            Binary.type(I32, I32, I32, I32, I32, I32, I64)};
        counted("types", Binary.merged(Binary.module(Binary.types(types)), Binary.module(Binary.types(types))), 0,
            types.length);
    }

    private static void countPages() {
        CHECKS.sentence("5: pages of the memory now (-1 without a memory or THE RUN)");
        WasmMerge none = Binary.merged(EMPTY);
        counted("without both", none, 5, -1);
        none.begin();
        counted("without a memory", none, 5, -1);
        for (int pages = 0; pages <= 2; pages++) {
            WasmMerge x = Binary.merged(Modules.functionWithMemory(Binary.limits(pages), Binary.type(I32, I32),
                Binary.get(0),
                Binary.bytes(0x40, 0)));
            counted("without THE RUN", x, 5, -1);
            x.begin();
            counted("with it", x, 5, pages);
            if (pages < 2) {
                Binary.callWith(x, 0, 0, 1);
                counted("one more", x, 5, pages + 1);
            }
            Binary.callWith(x, 0, 0, 3);
            counted("none beyond", x, 5, Math.min(pages + 1, 2));
            x.begin();
            counted("anew", x, 5, pages);
            x.merge();
            counted("without THE RUN again", x, 5, -1);
        }
    }

    private static void countElements() {
        CHECKS.sentence("6: elements of the table (-1 without one)");
        counted("without", Binary.merged(EMPTY), 6, -1);
        for (int size : new int[] {0, 1, 199, 200}) {
            WasmMerge x = Binary.merged(EMPTY, Modules.table(Binary.limits(size, 300)),
                Modules.passing("b", "t", "t", 1, Binary.table(Binary.limits(0))));
            counted("of " + size, x, 6, size);
            x.begin();
            counted("of " + size + " in THE RUN", x, 6, size);
        }
    }

    private static void countOutput() {
        CHECKS.sentence("7: bytes in OUTPUT as numbers that can be taken");
        WasmMerge x = Binary.merged(Modules.passing(Binary.type(NO, I32, I64), "h", "h", "h", 0, Binary.u32(0)));
        counted("without THE RUN", x, 7, 0);
        x.begin();
        counted("before any", x, 7, 0);
        Binary.callWith(x, 0, 0, 1, 2);
        counted("a number and two arguments", x, 7, 3);
        x.take();
        counted("one is taken", x, 7, 2);
        x.take();
        x.take();
        counted("all are taken", x, 7, 0);
        x.take();
        counted("no less than none", x, 7, 0);
    }

    private static void countRefused() {
        CHECKS.sentence("IllegalStateException without THE MERGE; IllegalArgumentException for others.");
        WasmMerge x = Binary.with(EMPTY);
        for (int what : new int[] {LEAST, -1, 0, 4, 5, 6, 7, 8, GREATEST}) {
            CHECKS.throwing("count(" + what + ") before merge", () -> x.count(what), STATE);
        }
        x.merge();
        for (int what : new int[] {LEAST, -2, -1, 8, 9, 10, GREATEST}) {
            CHECKS.throwing("count(" + what + ")", () -> x.count(what), ARGUMENT);
        }
        for (int what = 0; what <= 7; what++) {
            counted("count(" + what + ")", x, what, what == 5 || what == 6 ? -1 : 0);
        }
        x.clear();
        CHECKS.throwing("behind clear", () -> x.count(0), STATE);
        CHECKS.throwing("behind clear, no such what", () -> x.count(8), STATE);
    }

    private static void checks() {
        CHECKS.sentence("How much of THE MERGE is not valid as one MODULE: always 0. IllegalStateException without "
            + "it.");
        WasmMerge x = new WasmMerge();
        CHECKS.throwing("in a new object", x::check, STATE);
        Binary.feed(x, QUIET);
        x.add();
        CHECKS.throwing("before merge", x::check, STATE);
        x.merge();
        CHECKS.answers("behind merge", x::check, 0);
        x.begin();
        CHECKS.answers("in THE RUN", x::check, 0);
        Binary.feed(x, UNFIT);
        x.add();
        CHECKS.throwing("behind add", x::check, STATE);
        CHECKS.throwing("merge", x::merge, FAULT);
        CHECKS.throwing("behind a LINK FAULT", x::check, STATE);
        x.clear();
        CHECKS.throwing("behind clear", x::check, STATE);
    }
}
