import java.util.Arrays;

/** Term 3, sentence by sentence: how THE RUN begins, OUTPUT, and TRAPS 1 to 7 at their edges. */
public final class TermThreeTest {
    private static final Checks CHECKS = new Checks();
    private static final int I32 = Binary.I32;
    private static final int I64 = Binary.I64;
    private static final int NO = Binary.NO;
    private static final int LEAST = Integer.MIN_VALUE;
    private static final byte[] NULLARY = Binary.type(NO);
    private static final byte[] ZERO = Binary.i32(0);
    private static final byte[] ONE = Binary.i32(1);
    private static final byte[] NOP = Binary.op(0x01);
    private static final byte[] DEAD = Binary.op(0x00);
    private static final byte[] ELSE = Binary.op(0x05);
    private static final byte[] END = Binary.op(0x0b);
    private static final byte[] DROP = Binary.op(0x1a);
    private static final byte[] ADD = Binary.op(0x6a);
    private static final byte[] SUB = Binary.op(0x6b);
    private static final byte[] CONSTANT = Binary.bytes(I32, 0);

    private TermThreeTest() {
    }

    public static void main(String[] args) {
        globals();
        elements();
        data();
        segmentOrder();
        firstThatDoesNotFit();
        starts();
        hostNumbers();
        hostArguments();
        output();
        outputGoesRound();
        unreachable();
        division();
        memory();
        memoryThatGrew();
        table();
        calls();
        callsInStarts();
        muchAtOnce();
        steps();
        stepsThatCount();
        stepsOfStarts();
        staysBehindTraps();
        staysBehindBegin();
        CHECKS.finish("TermThreeTest");
    }

    /** A global that is the value of another MODULE's, and exports it. */
    private static byte[] copying(int k) {
        return Binary.module(Binary.imports(Binary.imported(Modules.nameOf(k), "g", 3, CONSTANT)),
            Binary.globals(Binary.global(I32, 0, Binary.op(0x23, 0))), Binary.exports(Binary.export("g", 3, 1)));
    }

    private static void globals() {
        CHECKS.sentence("GLOBALS get their INITIALS (MODULE by MODULE; global.get of what an import FITS that has none "
            + "yet: 0)");
        byte[] first = Modules.global(I32, 0, Binary.i32(LEAST));
        WasmMerge down = Binary.running(first, copying(0), copying(1), copying(2), copying(3), copying(4));
        WasmMerge up = Binary.running(copying(1), copying(2), copying(3), copying(4), copying(5), first);
        for (int k = 0; k < 6; k++) {
            int asked = k;
            CHECKS.answers("of one before, " + k, () -> down.global(asked, 0), LEAST);
            CHECKS.answers("of one behind, " + k, () -> up.global(asked, 0), k == 5 ? LEAST : 0);
        }
        up.begin();
        CHECKS.answers("of one behind, in the second RUN", () -> up.global(4, 0), 0);
        WasmMerge itself = Binary.running(Binary.module(Binary.imports(Binary.imported("a", "x", 3, CONSTANT)),
            Binary.globals(Binary.global(I32, 0, Binary.op(0x23, 0)), Binary.global(I32, 0, Binary.i32(5)),
                Binary.global(I32, 0, Binary.op(0x23, 0))),
            Binary.exports(Binary.export("before", 3, 1), Binary.export("x", 3, 2), Binary.export("behind", 3, 3))));
        CHECKS.answers("of one's own further down", () -> itself.global(0, 0), 0);
        CHECKS.answers("of one's own further up", () -> itself.global(0, 2), 5);
        long[] values = {0, 1, -1, Long.MAX_VALUE, Long.MIN_VALUE, 0x80000000L};
        for (long value : values) {
            CHECKS.answers("i64 " + value, () -> Binary.running(Modules.global(I64, 1, Binary.i64(value))).global(0, 0),
                value);
            CHECKS.answers("i32 " + (int) value,
                () -> Binary.running(Modules.global(I32, 1, Binary.i32((int) value))).global(0, 0), (int) value);
        }
    }

    /** A table of so many, elements of function 0, which gives 5; function 1 calls what stands at its argument. */
    private static byte[] withElements(int size, byte[]... elements) {
        return Binary.module(Binary.types(Binary.type(I32), Binary.type(I32, I32)), Binary.functions(0, 1),
            Binary.tables(Binary.limits(size)), Binary.exports(Binary.export("c", 0, 1), Binary.export("t", 1, 0)),
            Binary.elements(elements),
            Binary.codes(Binary.body(Binary.i32(5)), Binary.body(Binary.get(0), Binary.indirect(0))));
    }

    private static void elements() {
        CHECKS.sentence("then all elements, then all data, MODULE by MODULE: each is written if all of it fits "
            + "into the "
            + "table or memory");
        for (int size : new int[] {0, 1, 3, 200}) {
            for (int many : new int[] {0, 1, 2, 200}) {
                for (int over = -1; over <= 1; over++) {
                    int at = size - many + over;
                    boolean fits = at >= 0 && over <= 0;
                    WasmMerge x = Binary.merged(withElements(size, Binary.element(Binary.i32(at), new int[many])));
                    CHECKS.same(many + " at " + at + " of " + size, Binary.beginTrap(x), fits ? 0 : 6);
                    if (many > 0 && at + many - 1 >= 0) {
                        CHECKS.same("its last", Binary.callTrap(x, 0, 0, at + many - 1), fits ? 0 : 4);
                        CHECKS.same("one behind", Binary.callTrap(x, 0, 0, at + many), 4);
                    }
                }
            }
            for (int at : new int[] {-1, LEAST, Integer.MAX_VALUE}) {
                CHECKS.same("none at " + at, Binary.beginTrap(Binary.merged(withElements(size,
                    Binary.element(Binary.i32(at))))), 6);
            }
        }
    }

    private static byte[] withData(int pages, byte[]... data) {
        return Binary.module(Binary.memories(Binary.limits(pages)), Binary.exports(Binary.export("m", 2, 0)),
            Binary.data(data));
    }

    private static void data() {
        CHECKS.sentence("each is written if all of it fits into the table or memory");
        for (int pages = 0; pages <= 2; pages++) {
            int size = 65536 * pages;
            for (int many : new int[] {0, 1, 2, 3000}) {
                for (int over = -1; over <= 1; over++) {
                    int at = size - many + over;
                    boolean fits = at >= 0 && over <= 0;
                    int shift = over;
                    int[] content = new int[many];
                    Arrays.fill(content, 9);
                    WasmMerge x = Binary.merged(withData(pages, Binary.datum(Binary.i32(at), content)));
                    CHECKS.same(many + " at " + at + " of " + size, Binary.beginTrap(x), fits ? 0 : 6);
                    if (many > 0 && size > 0) {
                        CHECKS.answers("its first byte", () -> x.memory(at), fits ? 9 : at < size ? 0 : -1);
                        CHECKS.answers("its last byte", () -> x.memory(size - 1 + Math.min(shift, 0)), fits ? 9 : 0);
                    }
                }
            }
            for (int at : new int[] {-1, LEAST, Integer.MAX_VALUE}) {
                CHECKS.same("none at " + at, Binary.beginTrap(Binary.merged(withData(pages,
                    Binary.datum(Binary.i32(at))))), 6);
            }
        }
    }

    private static void segmentOrder() {
        CHECKS.sentence("then all elements, then all data, MODULE by MODULE");
        byte[] memoryOfA = Binary.imports(Binary.imported("a", "m", 2, Binary.limits(0)));
        WasmMerge x = Binary.running(withData(1, Binary.datum(ZERO, 1, 1, 1, 1), Binary.datum(ONE, 2, 2, 2)),
            Binary.module(memoryOfA, Binary.data(Binary.datum(Binary.i32(2), 3, 3))),
            Binary.module(memoryOfA, Binary.data(Binary.datum(Binary.i32(3), 4))));
        for (int at = 0; at < 4; at++) {
            int asked = at;
            CHECKS.answers("the latest data at " + at, () -> x.memory(asked), at + 1);
        }
        byte[] later = Binary.module(Binary.types(Binary.type(I32)),
            Binary.imports(Binary.imported("a", "t", 1, Binary.table(Binary.limits(0)))), Binary.functions(0),
            Binary.elements(Binary.element(ONE, 0)), Binary.codes(Binary.body(Binary.i32(6))));
        WasmMerge y = Binary.running(withElements(3, Binary.element(ZERO, 0, 0, 0)), later);
        CHECKS.answers("an element of the first", () -> Binary.callWith(y, 0, 0, 0), 5);
        CHECKS.answers("the latest element", () -> Binary.callWith(y, 0, 0, 1), 6);
        CHECKS.answers("an element of the first behind it", () -> Binary.callWith(y, 0, 0, 2), 5);
        WasmMerge z = Binary.merged(withData(1, Binary.datum(ZERO, 7)), withElements(1, Binary.element(ONE, 0)));
        CHECKS.same("an element of the second that does not fit", Binary.beginTrap(z), 6);
        CHECKS.answers("comes before the data of the first", () -> z.memory(0), 0);
        WasmMerge w = Binary.merged(withData(1, Binary.datum(Binary.i32(65536), 7)), withElements(1,
            Binary.element(ZERO, 0)));
        CHECKS.same("data of the first that do not fit", Binary.beginTrap(w), 6);
        CHECKS.answers("come behind the element of the second", () -> Binary.callWith(w, 1, 0, 0), 5);
    }

    private static void firstThatDoesNotFit() {
        CHECKS.sentence("the first that does not: TRAP 6");
        WasmMerge x = Binary.merged(withData(1, Binary.datum(ZERO, 1), Binary.datum(Binary.i32(65535), 2, 2),
            Binary.datum(ONE, 3), Binary.datum(Binary.i32(-1), 4)));
        CHECKS.throwing("begin", x::begin, ArithmeticException.class);
        CHECKS.same("trap", x.trap(), 6);
        CHECKS.answers("what was before it", () -> x.memory(0), 1);
        CHECKS.answers("nothing of it", () -> x.memory(65535), 0);
        CHECKS.answers("nothing behind it", () -> x.memory(1), 0);
        WasmMerge y = Binary.merged(withElements(3, Binary.element(ZERO, 0), Binary.element(Binary.i32(2), 0, 0),
            Binary.element(ONE, 0)));
        CHECKS.throwing("begin", y::begin, ArithmeticException.class);
        CHECKS.same("trap", y.trap(), 6);
        CHECKS.answers("what was before it", () -> Binary.callWith(y, 0, 0, 0), 5);
        CHECKS.same("nothing of it", Binary.callTrap(y, 0, 0, 2), 4);
        CHECKS.same("nothing behind it", Binary.callTrap(y, 0, 0, 1), 4);
        CHECKS.throwing("begin again", y::begin, ArithmeticException.class);
        CHECKS.same("trap again", y.trap(), 6);
    }

    /** A start that tells the HOST this number, and then does this. */
    private static byte[] starting(int number, byte[]... then) {
        return Binary.module(Binary.types(NULLARY, Binary.type(NO, I32)),
            Binary.imports(Binary.imported("h", "h", 0, Binary.u32(1))), Binary.functions(0), Binary.start(1),
            Binary.codes(Binary.body(Binary.i32(number), Binary.call(0), Binary.join(then))));
    }

    private static void starts() {
        CHECKS.sentence("then starts are called, MODULE by MODULE.");
        WasmMerge x = Binary.running(starting(10), starting(11), Modules.EMPTY, starting(13), starting(14),
            starting(15));
        long[] due = {0, 10, 1, 11, 2, 13, 3, 14, 4, 15, 0};
        for (long number : due) {
            CHECKS.answers("take", x::take, number);
        }
        WasmMerge y = Binary.merged(starting(10), starting(11, DEAD), starting(12));
        CHECKS.same("a start that has a TRAP", Binary.beginTrap(y), 1);
        CHECKS.same("none behind it is called", y.count(7), 4);
        WasmMerge z = Binary.merged(starting(10), withData(0, Binary.datum(ZERO, 1)));
        CHECKS.same("data that do not fit", Binary.beginTrap(z), 6);
        CHECKS.same("no start is called then", z.count(7), 0);
        byte[] reading = Binary.module(Binary.types(NULLARY), Binary.imports(Binary.imported("b", "m", 2,
            Binary.limits(1))),
            Binary.functions(0), Binary.start(0), Binary.codes(Binary.body(ONE, ZERO, Binary.access(0x2d, 0, 0),
                Binary.access(0x3a, 0, 0))));
        WasmMerge w = Binary.running(reading, withData(1, Binary.datum(ZERO, 42)));
        CHECKS.answers("the first start sees the last data", () -> w.memory(1), 42);
    }

    /** Thirty imports in each of six MODULES, the even ones of the HOST. */
    private static void hostNumbers() {
        CHECKS.sentence("A HOST's function writes its number (0, 1, .. of all such imports, in order)");
        byte[][] modules = new byte[6][];
        for (int k = 0; k < 6; k++) {
            byte[][] imports = new byte[30][];
            byte[][] exports = new byte[31][];
            for (int i = 0; i < 30; i++) {
                imports[i] = Binary.imported(i % 2 == 0 ? "h" : "a", "own", 0, Binary.u32(0));
                exports[i] = Binary.export("e" + i, 0, i);
            }
            exports[30] = Binary.export("own", 0, 30);
            modules[k] = Binary.module(Binary.types(NULLARY), Binary.imports(imports), Binary.functions(0),
                Binary.exports(exports), Binary.codes(Binary.body()));
        }
        WasmMerge x = Binary.running(modules);
        CHECKS.same("imports of the HOST", x.count(1), 90);
        for (int k = 5; k >= 0; k--) {
            for (int i = 0; i < 30; i += 2) {
                x.call(k, i);
                CHECKS.answers("import " + i + " of MODULE " + k, x::take, 15 * k + i / 2);
            }
        }
        x.call(3, 1);
        CHECKS.same("one of a MODULE writes nothing", x.count(7), 0);
    }

    private static void hostArguments() {
        CHECKS.sentence("and its arguments to OUTPUT (each a number; at most 2000 that are not taken), and gives 0.");
        int[][] parameters = {{}, {I32}, {I64}, {I64, I32, I64, I32, I64, I32}};
        int[] results = {NO, I32, I64};
        long[] values = {Long.MIN_VALUE, 0xffffffffL, -1, 0x80000000L, Long.MAX_VALUE, 0x100000000L};
        for (int[] types : parameters) {
            for (int result : results) {
                WasmMerge x = Binary.running(Modules.passing(Binary.type(result, types), "h", "h", "h", 0,
                    Binary.u32(0)));
                for (int i = 0; i < types.length; i++) {
                    x.argument(values[i]);
                }
                CHECKS.answers("it gives", () -> x.call(0, 0), 0);
                CHECKS.same("numbers of " + types.length, x.count(7), 1 + types.length);
                CHECKS.answers("its number", x::take, 0);
                for (int i = 0; i < types.length; i++) {
                    CHECKS.answers("argument " + i, x::take, types[i] == I32 ? (int) values[i] : values[i]);
                }
                CHECKS.answers("no more", x::take, 0);
                CHECKS.same("no numbers", x.count(7), 0);
            }
        }
        WasmMerge inside = Binary.running(Binary.module(Binary.types(Binary.type(I64, I32), Binary.type(I64)),
            Binary.imports(Binary.imported("h", "h", 0, Binary.u32(0))), Binary.functions(1),
            Binary.exports(Binary.export("f", 0, 1)), Binary.codes(Binary.body(Binary.i64(7), Binary.i32(-2),
                Binary.call(0), Binary.op(0x7c)))));
        CHECKS.answers("0 inside", () -> inside.call(0, 0), 7);
    }

    /** Export 0 calls a HOST's function without arguments so often; exports 1 and 2 are ones of two and of none. */
    private static byte[] writing() {
        return Binary.module(Binary.types(Binary.type(NO, I32), NULLARY, Binary.type(NO, I32, I64)),
            Binary.imports(Binary.imported("h", "x", 0, Binary.u32(1)), Binary.imported("h", "y", 0, Binary.u32(2))),
            Binary.functions(0), Binary.exports(Binary.export("f", 0, 2), Binary.export("y", 0, 1), Binary.export("x",
            0, 0)),
            Binary.codes(Binary.body(Binary.bytes(0x03, NO), Binary.call(0), Binary.get(0), ONE, SUB, Binary.op(0x22,
            0),
                Binary.op(0x0d, 0), END)));
    }

    private static void output() {
        CHECKS.sentence("(each a number; at most 2000 that are not taken)");
        for (int many : new int[] {1, 1998, 1999, 2000, 2001, 2002, 2500}) {
            WasmMerge x = Binary.running(writing());
            Binary.callWith(x, 0, 0, many);
            CHECKS.same(many + " numbers", x.count(7), Math.min(many, 2000));
            // its number and two arguments, as far as there is room for them
            Binary.callWith(x, 0, 1, 5, 6);
            CHECKS.same(many + " numbers and three", x.count(7), Math.min(many + 3, 2000));
            Binary.callWith(x, 0, 1, 5, 6);
            CHECKS.same(many + " numbers and six", x.count(7), Math.min(many + 6, 2000));
            x.begin();
            CHECKS.same("none in a new RUN", x.count(7), 0);
        }
        WasmMerge y = Binary.running(writing());
        Binary.callWith(y, 0, 1, 8, 9);
        Binary.callWith(y, 0, 0, 2500);
        CHECKS.same("2000 of 2503", y.count(7), 2000);
        CHECKS.answers("the first stays", y::take, 1);
        CHECKS.answers("the second stays", y::take, 8);
        CHECKS.same("1998 are left", y.count(7), 1998);
        y.call(0, 2);
        CHECKS.same("one more", y.count(7), 1999);
        y.call(0, 2);
        CHECKS.same("two more", y.count(7), 2000);
        y.call(0, 2);
        CHECKS.same("no third", y.count(7), 2000);
        CHECKS.answers("the third stays", y::take, 9);
        CHECKS.answers("and the fourth", y::take, 0);
    }

    /** What is written and taken in turns keeps its order beyond the 2000th number. */
    private static void outputGoesRound() {
        CHECKS.sentence("The next number that was written to OUTPUT and not taken");
        WasmMerge x = Binary.running(Binary.module(Binary.types(Binary.type(NO, I32), Binary.type(NO, I32, I32, I32,
            I32, I32, I32)),
            Binary.imports(Binary.imported("h", "x", 0, Binary.u32(1))), Binary.functions(0),
            Binary.exports(Binary.export("f", 0, 1)),
            Binary.codes(Binary.bodyWith(Binary.locals(1, I32), Binary.join(Binary.bytes(0x03, NO), Binary.repeat(6,
            Binary.get(1)),
                Binary.call(0), Binary.get(1), ONE, ADD, Binary.op(0x22, 1), Binary.get(0), Binary.op(0x48),
                Binary.op(0x0d, 0), END)))));
        // 285 calls of seven numbers each are 1995, and 1996 to 2000 are of the next one
        Binary.callWith(x, 0, 0, 400);
        CHECKS.same("full", x.count(7), 2000);
        for (int i = 0; i < 70; i++) {
            CHECKS.answers("number " + i, x::take, i % 7 == 0 ? 0 : i / 7);
        }
        Binary.callWith(x, 0, 0, 10);
        CHECKS.same("full again", x.count(7), 2000);
        for (int i = 70; i < 140; i++) {
            CHECKS.answers("number " + i, x::take, i % 7 == 0 ? 0 : i / 7);
        }
    }

    private static void unreachable() {
        CHECKS.sentence("TRAPS: 1 unreachable");
        WasmMerge x = Binary.running(Modules.function(Binary.type(I32, I32), Binary.get(0), Binary.bytes(0x04, I32),
            Binary.i32(4), ELSE, DEAD, END));
        CHECKS.answers("that is not reached", () -> Binary.callWith(x, 0, 0, 1), 4);
        CHECKS.same("that is reached", Binary.callTrap(x, 0, 0, 0), 1);
        CHECKS.answers("that is not reached again", () -> Binary.callWith(x, 0, 0, -1), 4);
    }

    private static void division() {
        CHECKS.sentence("2 division by 0 or that is too large");
        for (int op : new int[] {0x6d, 0x6e, 0x6f, 0x70, 0x7f, 0x80, 0x81, 0x82}) {
            boolean wide = op >= 0x7f;
            boolean signs = op % 2 == 1;
            boolean divides = (wide ? op - 0x7f : op - 0x6d) < 2;
            int type = wide ? I64 : I32;
            long least = wide ? Long.MIN_VALUE : LEAST;
            long greatest = wide ? Long.MAX_VALUE : Integer.MAX_VALUE;
            WasmMerge x = Binary.running(Modules.function(Binary.type(type, type, type), Binary.get(0), Binary.get(1),
                Binary.op(op)));
            for (long by0 : new long[] {0, 1, -1, least, greatest}) {
                CHECKS.same(op + " of " + by0 + " by 0", Binary.callTrap(x, 0, 0, by0, 0), 2);
            }
            CHECKS.same(op + " of 0 by 1", Binary.callTrap(x, 0, 0, 0, 1), 0);
            CHECKS.same(op + " of 0 by -1", Binary.callTrap(x, 0, 0, 0, -1), 0);
            CHECKS.same(op + " of the least by -1", Binary.callTrap(x, 0, 0, least, -1), signs && divides ? 2 : 0);
            CHECKS.same(op + " of the least but one by -1", Binary.callTrap(x, 0, 0, least + 1, -1), 0);
            CHECKS.same(op + " of the least by -2", Binary.callTrap(x, 0, 0, least, -2), 0);
            CHECKS.same(op + " of the least by 1", Binary.callTrap(x, 0, 0, least, 1), 0);
            CHECKS.same(op + " of the greatest by -1", Binary.callTrap(x, 0, 0, greatest, -1), 0);
            if (wide) {
                CHECKS.same(op + " of the least i32 by -1", Binary.callTrap(x, 0, 0, LEAST, -1), 0);
                CHECKS.same(op + " by 2 to the 32nd", Binary.callTrap(x, 0, 0, 1, 0x100000000L), 0);
            } else {
                CHECKS.same(op + " by 2 to the 32nd, which is 0", Binary.callTrap(x, 0, 0, 1, 0x100000000L), 2);
            }
        }
    }

    private static int bytesOf(int op) {
        int[] bytes = {4, 8, 0, 0, 1, 1, 2, 2, 1, 1, 2, 2, 4, 4, 4, 8, 0, 0, 1, 2, 1, 2, 4};
        return bytes[op - 0x28];
    }

    /** Loads or stores at local 0, with an offset. */
    private static byte[] access(int op, long offset) {
        boolean narrow = op == 0x36 || op == 0x3a || op == 0x3b;
        byte[] value = op < 0x36 ? Binary.NOTHING : narrow ? Binary.i32(-1) : Binary.i64(-1);
        return Binary.join(Binary.get(0), value, Binary.access(op, 0, offset), op < 0x36 ? DROP : Binary.NOTHING);
    }

    private static void memory() {
        CHECKS.sentence("3 memory that is not there");
        byte[] type = Binary.type(NO, I32);
        for (int op = 0x28; op <= 0x3e; op++) {
            int many = bytesOf(op);
            for (int pages = 0; pages <= 2 && many > 0; pages++) {
                int size = 65536 * pages;
                WasmMerge x = Binary.running(Modules.functionWithMemory(Binary.limits(pages), type, access(op, 0)));
                String what = op + " in " + pages + " pages ";
                CHECKS.same(what + "at 0", Binary.callTrap(x, 0, 0, 0), pages == 0 ? 3 : 0);
                CHECKS.same(what + "one over the end", Binary.callTrap(x, 0, 0, size - many + 1), 3);
                CHECKS.same(what + "at the end", Binary.callTrap(x, 0, 0, size), 3);
                CHECKS.same(what + "at -1", Binary.callTrap(x, 0, 0, -1), 3);
                CHECKS.same(what + "at -" + many, Binary.callTrap(x, 0, 0, -many), 3);
                CHECKS.same(what + "at the least", Binary.callTrap(x, 0, 0, LEAST), 3);
                for (int i = 1; i <= many && pages > 0; i++) {
                    int at = size - i;
                    CHECKS.answers(what + "nothing of it is written", () -> x.memory(at), 0);
                }
                if (pages > 0) {
                    CHECKS.same(what + "the last", Binary.callTrap(x, 0, 0, size - many), 0);
                    CHECKS.answers(what + "the last byte", () -> x.memory(size - 1), op < 0x36 ? 0 : 255);
                }
                WasmMerge y = Binary.running(Modules.functionWithMemory(Binary.limits(pages), type, access(op,
                    0xffffffffL)));
                CHECKS.same(what + "the greatest offset", Binary.callTrap(y, 0, 0, 0), 3);
                CHECKS.same(what + "the greatest offset and 1", Binary.callTrap(y, 0, 0, 1), 3);
                CHECKS.same(what + "the greatest offset and -1", Binary.callTrap(y, 0, 0, -1), 3);
                WasmMerge z = Binary.running(Modules.functionWithMemory(Binary.limits(pages), type, access(op, size)));
                CHECKS.same(what + "an offset at the end", Binary.callTrap(z, 0, 0, 0), 3);
                CHECKS.same(what + "an offset at the end and -1", Binary.callTrap(z, 0, 0, -1), 3);
                CHECKS.same(what + "an offset at the end and -" + many, Binary.callTrap(z, 0, 0, -many), 3);
            }
        }
    }

    private static void memoryThatGrew() {
        CHECKS.sentence("3 memory that is not there");
        WasmMerge x = Binary.running(Binary.module(Binary.types(Binary.type(NO, I32), Binary.type(I32, I32)),
            Binary.functions(0, 1), Binary.memories(Binary.limits(0, 2)),
            Binary.exports(Binary.export("f", 0, 0), Binary.export("g", 0, 1)),
            Binary.codes(Binary.body(access(0x3a, 0)), Binary.body(Binary.get(0), Binary.bytes(0x40, 0)))));
        for (int pages = 0; pages < 2; pages++) {
            int at = 65536 * pages;
            int before = pages;
            CHECKS.same("the first byte of page " + pages, Binary.callTrap(x, 0, 0, at), 3);
            CHECKS.answers("a page too many", () -> Binary.callWith(x, 0, 1, 3 - before), -1);
            CHECKS.same("it is not there by that", Binary.callTrap(x, 0, 0, at), 3);
            CHECKS.answers("page " + pages, () -> Binary.callWith(x, 0, 1, 1), before);
            CHECKS.same("it is there now", Binary.callTrap(x, 0, 0, at), 0);
            CHECKS.same("its last byte", Binary.callTrap(x, 0, 0, at + 65535), 0);
            CHECKS.same("the byte behind it", Binary.callTrap(x, 0, 0, at + 65536), 3);
        }
    }

    private static void table() {
        CHECKS.sentence("4 an element of the table that is not there or of another type");
        for (int size : new int[] {1, 2, 199, 200}) {
            WasmMerge x = Binary.running(withElements(size, Binary.element(Binary.i32(size - 1), 0)));
            CHECKS.answers("the last of " + size, () -> Binary.callWith(x, 0, 0, size - 1), 5);
            CHECKS.same("the one behind the last of " + size, Binary.callTrap(x, 0, 0, size), 4);
            CHECKS.same("the first of " + size, Binary.callTrap(x, 0, 0, 0), size == 1 ? 0 : 4);
            CHECKS.same("-1", Binary.callTrap(x, 0, 0, -1), 4);
            CHECKS.same("the least", Binary.callTrap(x, 0, 0, LEAST), 4);
            CHECKS.same("the greatest", Binary.callTrap(x, 0, 0, Integer.MAX_VALUE), 4);
        }
        WasmMerge none = Binary.running(withElements(0));
        CHECKS.same("the first of 0", Binary.callTrap(none, 0, 0, 0), 4);
        WasmMerge other = Binary.running(withElements(2, Binary.element(ZERO, 1, 0)));
        CHECKS.same("one with a parameter more", Binary.callTrap(other, 0, 0, 0), 4);
        CHECKS.answers("one of the type", () -> Binary.callWith(other, 0, 0, 1), 5);
        int[] results = {NO, I32, I64};
        for (int wanted = 0; wanted < 3; wanted++) {
            for (int given = 0; given < 3; given++) {
                WasmMerge x = Binary.running(Binary.module(Binary.types(Binary.type(results[given], I32),
                    Binary.type(results[wanted], I32), NULLARY), Binary.functions(0, 2),
                    Binary.tables(Binary.limits(1)),
                    Binary.exports(Binary.export("c", 0, 1)), Binary.elements(Binary.element(ZERO, 0)),
                    Binary.codes(given == 0 ? Binary.body() : Binary.body(given == 1 ? ONE : Binary.i64(1)),
                        Binary.body(ONE, ZERO, Binary.indirect(1), wanted == 0 ? Binary.NOTHING : DROP))));
                CHECKS.same("result " + given + " for " + wanted, Binary.callTrap(x, 0, 0), given == wanted ? 0 : 4);
            }
        }
    }

    /** Export 0 calls itself so often as its argument says; export 1 counts how many calls were begun. */
    private static byte[] deep(int start) {
        byte[] module = Binary.join(Binary.types(Binary.type(NO, I32), NULLARY), Binary.functions(0, 1),
            Binary.globals(Binary.global(I32, 1, ZERO)), Binary.exports(Binary.export("f", 0, 0), Binary.export("g", 3,
            0)));
        byte[] codes = Binary.codes(Binary.body(Binary.op(0x23, 0), ONE, ADD, Binary.op(0x24, 0), Binary.get(0),
            Binary.bytes(0x04, NO), Binary.get(0), ONE, SUB, Binary.call(0), END),
            Binary.body(Binary.i32(Math.max(start, 0)), Binary.call(0)));
        return Binary.module(module, start < 0 ? Binary.NOTHING : Binary.start(1), codes);
    }

    private static void calls() {
        CHECKS.sentence("5 more than 100 calls in each other");
        WasmMerge x = Binary.running(deep(-1));
        int begun = 0;
        for (int more : new int[] {0, 1, 98, 99, 100, 101, 1000, 99}) {
            CHECKS.same("a call and " + more + " in it", Binary.callTrap(x, 0, 0, more), more < 100 ? 0 : 5);
            begun += Math.min(more + 1, 100);
            CHECKS.same("how many were begun", x.global(0, 1), begun);
        }
        // from one MODULE to the other and back
        WasmMerge y = Binary.running(bouncing("b"), bouncing("a"));
        CHECKS.same("a call and 99 in it, of two MODULES", Binary.callTrap(y, 0, 0, 99), 0);
        CHECKS.same("a call and 100 in it, of two MODULES", Binary.callTrap(y, 1, 0, 100), 5);
        // 200 calls, one behind the other
        WasmMerge z = Binary.running(Binary.module(Binary.types(NULLARY), Binary.functions(0, 0),
            Binary.exports(Binary.export("f", 0, 0)), Binary.codes(Binary.body(Binary.repeat(200, Binary.call(1))),
            Binary.body())));
        CHECKS.same("200 that are not in each other", Binary.callTrap(z, 0, 0), 0);
    }

    private static byte[] bouncing(String other) {
        return Binary.module(Binary.types(Binary.type(NO, I32)), Binary.imports(Binary.imported(other, "f", 0,
            Binary.u32(0))),
            Binary.functions(0), Binary.exports(Binary.export("f", 0, 1)), Binary.codes(Binary.body(Binary.get(0),
                Binary.bytes(0x04, NO), Binary.get(0), ONE, SUB, Binary.call(0), END)));
    }

    private static void callsInStarts() {
        CHECKS.sentence("5 more than 100 calls in each other");
        // the start is one, the function that it calls another
        CHECKS.same("a start and 99 in it", Binary.beginTrap(Binary.merged(deep(98))), 0);
        WasmMerge x = Binary.merged(deep(99));
        CHECKS.same("a start and 100 in it", Binary.beginTrap(x), 5);
        CHECKS.answers("100 were begun", () -> x.global(0, 1), 99);
        CHECKS.same("each start begins anew", Binary.beginTrap(Binary.merged(deep(98), deep(98))), 0);
    }

    /** 100 calls in each other, each with 30 locals and 191 values that stay until it ends: nearly 20000 INSTRUCTIONS. */
    private static void muchAtOnce() {
        CHECKS.sentence("5 more than 100 calls in each other");
        byte[] values = Binary.repeat(191, Binary.get(0));
        byte[] code = Binary.join(values, Binary.get(0), Binary.op(0x45), Binary.op(0x0d, 0), Binary.get(0), ONE, SUB,
            Binary.call(0), ADD, Binary.op(0x0f));
        WasmMerge x = Binary.running(Binary.module(Binary.types(Binary.type(I32, I32)), Binary.functions(0),
            Binary.exports(Binary.export("f", 0, 0)), Binary.codes(Binary.bodyWith(Binary.locals(29, I64), code))));
        for (int turn = 0; turn < 5; turn++) {
            CHECKS.answers("100 calls", () -> Binary.callWith(x, 0, 0, 99), 4950);
            CHECKS.same("101 calls", Binary.callTrap(x, 0, 0, 100), 5);
            CHECKS.answers("one call behind that", () -> Binary.callWith(x, 0, 0, 1), 1);
        }
    }

    /** Export 0 does so many INSTRUCTIONS without any loop: calls of 199 nops, and nops; each number is below 20400. */
    private static byte[] spending(int steps, boolean start) {
        return Binary.module(Binary.types(NULLARY), Binary.functions(0, 0), Binary.exports(Binary.export("f", 0, 0)),
            start ? Binary.start(0) : Binary.NOTHING,
            Binary.codes(Binary.body(Binary.repeat(steps / 200, Binary.call(1)), Binary.repeat(steps % 200, NOP)),
                Binary.body(Binary.repeat(199, NOP))));
    }

    private static void steps() {
        CHECKS.sentence("7 more than 20000 INSTRUCTIONS (each that is begun, but else and end, counts) by one call "
            + "from outside");
        for (int steps : new int[] {0, 1, 19999, 20000, 20001, 20002, 20200}) {
            WasmMerge x = Binary.running(spending(steps, false));
            for (int turn = 0; turn < 3; turn++) {
                CHECKS.same(steps + " in call " + turn, Binary.callTrap(x, 0, 0), steps <= 20000 ? 0 : 7);
            }
        }
        WasmMerge ever = Binary.running(Modules.function(NULLARY, Binary.bytes(0x03, NO), Binary.op(0x0c, 0), END));
        CHECKS.same("without an end", Binary.callTrap(ever, 0, 0), 7);
    }

    /** Before each of these 19900 are done; it is begun as often as its own number says. */
    private static void stepsThatCount() {
        CHECKS.sentence("(each that is begun, but else and end, counts)");
        byte[] block = Binary.bytes(0x02, NO, 0x0b);
        byte[] loop = Binary.bytes(0x03, NO, 0x0b);
        byte[] taken = Binary.join(ONE, Binary.bytes(0x04, NO), NOP, ELSE, NOP, NOP, END);
        byte[] other = Binary.join(ZERO, Binary.bytes(0x04, NO), NOP, ELSE, NOP, NOP, END);
        byte[] alone = Binary.join(ZERO, Binary.bytes(0x04, NO), NOP, END);
        byte[] branch = Binary.join(Binary.bytes(0x02, NO), Binary.op(0x0c, 0), NOP, NOP, END);
        byte[] stays = Binary.join(Binary.bytes(0x02, NO), ZERO, Binary.op(0x0d, 0), NOP, END);
        byte[] select = Binary.join(ONE, ONE, ONE, Binary.op(0x1b), DROP);
        Object[][] rows = {{"nop", NOP, 1}, {"block", block, 1}, {"loop", loop, 1}, {"if", taken, 3}, {"else", other,
            4},
            {"if without else", alone, 2}, {"br", branch, 2}, {"br_if", stays, 4}, {"select", select, 5}};
        for (Object[] row : rows) {
            byte[] code = (byte[]) row[1];
            int counts = (Integer) row[2];
            int times = 100 / counts;
            int rest = 100 % counts;
            for (int more = 0; more <= 1; more++) {
                byte[] first = Binary.join(Binary.repeat(99, Binary.call(1)), Binary.repeat(100, NOP));
                WasmMerge x = Binary.running(Binary.module(Binary.types(NULLARY), Binary.functions(0, 0),
                    Binary.exports(Binary.export("f", 0, 0)), Binary.codes(Binary.body(first, Binary.repeat(times,
                    code),
                        Binary.repeat(rest + more, NOP)), Binary.body(Binary.repeat(199, NOP)))));
                CHECKS.same(row[0] + " and " + more, Binary.callTrap(x, 0, 0), more == 0 ? 0 : 7);
            }
        }
        // the one that is too many is not done; the last one is
        for (int before : new int[] {19999, 20000}) {
            WasmMerge x = Binary.running(Binary.module(Binary.types(NULLARY), Binary.functions(0, 0),
                Binary.exports(Binary.export("f", 0, 0)), Binary.codes(Binary.body(Binary.repeat(before / 200,
                Binary.call(1)),
                    Binary.repeat(before % 200, NOP), DEAD), Binary.body(Binary.repeat(199, NOP)))));
            CHECKS.same("unreachable behind " + before, Binary.callTrap(x, 0, 0), before == 19999 ? 1 : 7);
        }
    }

    private static void stepsOfStarts() {
        CHECKS.sentence("(all starts are one)");
        CHECKS.same("20000 of one", Binary.beginTrap(Binary.merged(spending(20000, true))), 0);
        CHECKS.same("20001 of one", Binary.beginTrap(Binary.merged(spending(20001, true))), 7);
        byte[][] six = Binary.times(6, spending(3333, true));
        CHECKS.same("19998 of six", Binary.beginTrap(Binary.merged(six)), 0);
        six[5] = spending(3335, true);
        WasmMerge x = Binary.merged(six);
        CHECKS.same("20000 of six", Binary.beginTrap(x), 0);
        CHECKS.same("20000 of six in the next RUN", Binary.beginTrap(x), 0);
        CHECKS.same("a call behind them has its own", Binary.callTrap(x, 5, 0), 0);
        six[5] = spending(3336, true);
        CHECKS.same("20001 of six", Binary.beginTrap(Binary.merged(six)), 7);
    }

    /** Writes to a global, the memory, its pages and OUTPUT, and then does something. */
    private static byte[] writingThen(int start, byte[]... then) {
        return Binary.module(Binary.types(NULLARY, Binary.type(NO, I32), Binary.type(I64)),
            Binary.imports(Binary.imported("h", "h", 0, Binary.u32(1))), Binary.functions(0),
            Binary.tables(Binary.limits(1)), Binary.memories(Binary.limits(1)), Binary.globals(Binary.global(I32, 1,
            ZERO)),
            Binary.exports(Binary.export("f", 0, 1), Binary.export("g", 3, 0)),
            start == 0 ? Binary.NOTHING : Binary.start(1),
            Binary.codes(Binary.body(Binary.i32(44), Binary.op(0x24, 0), ZERO, Binary.i32(55), Binary.access(0x3a, 0,
            65535),
                ONE, Binary.bytes(0x40, 0), DROP, Binary.i32(66), Binary.call(0), Binary.join(then))));
    }

    private static final byte[][] TRAPPING = {
        DEAD,
        Binary.join(ONE, ZERO, Binary.op(0x6d), DROP),
        Binary.join(Binary.i32(-1), Binary.access(0x28, 0, 0), DROP),
        Binary.join(ZERO, Binary.indirect(0)),
        // the calls in it write the same again, but no page more is there for them
        Binary.call(1),
        Binary.NOTHING,
        Binary.join(Binary.bytes(0x03, NO), Binary.op(0x0c, 0), END),
    };

    private static void seen(String what, WasmMerge x, int trap) {
        CHECKS.same(what, x.trap(), trap);
        CHECKS.answers(what + ": the global", () -> x.global(0, 1), 44);
        CHECKS.answers(what + ": the memory", () -> x.memory(65535), 55);
        CHECKS.same(what + ": its pages", x.count(5), 2);
        CHECKS.same(what + ": OUTPUT", x.count(7), trap == 5 ? 198 : 2);
        CHECKS.answers(what + ": its first", x::take, 0);
        CHECKS.answers(what + ": its second", x::take, 66);
    }

    private static void staysBehindTraps() {
        CHECKS.sentence("What was written before a TRAP stays.");
        for (int i = 0; i < TRAPPING.length; i++) {
            if (i != 5) {
                WasmMerge x = Binary.running(writingThen(0, TRAPPING[i]));
                CHECKS.throwing("call", () -> x.call(0, 0), ArithmeticException.class);
                seen("TRAP " + (i + 1) + " in a call", x, i + 1);
                WasmMerge y = Binary.merged(writingThen(1, TRAPPING[i]));
                CHECKS.throwing("begin", y::begin, ArithmeticException.class);
                seen("TRAP " + (i + 1) + " in a start", y, i + 1);
            }
        }
    }

    private static void staysBehindBegin() {
        CHECKS.sentence("ArithmeticException for a TRAP (it goes on all the same).");
        WasmMerge x = Binary.merged(withElements(2, Binary.element(ZERO, 0), Binary.element(ONE, 0, 0)),
            Modules.global(I32, 0, Binary.i32(31)), withData(1, Binary.datum(ZERO, 1)));
        CHECKS.throwing("TRAP 6 in begin", x::begin, ArithmeticException.class);
        CHECKS.answers("the element before it", () -> Binary.callWith(x, 0, 0, 0), 5);
        CHECKS.answers("the globals", () -> x.global(1, 0), 31);
        CHECKS.same("the pages", x.count(5), 1);
        CHECKS.answers("the memory", () -> x.memory(0), 0);
    }
}
