import java.util.Arrays;

/** Term 1, sentence by sentence: what a MODULE may hold, how much of it, and which FAULT comes before which. */
public final class TermOneTest {
    private static final Checks CHECKS = new Checks();
    private static final int I32 = Binary.I32;
    private static final int I64 = Binary.I64;
    private static final int NO = Binary.NO;
    private static final byte[] NULLARY = Binary.types(Binary.type(NO));
    private static final byte[] ONE = Binary.functions(0);
    private static final byte[] BODY = Binary.body();
    private static final byte[] ZERO = Binary.i32(0);
    private static final byte[] DEAD = Binary.op(0x00);
    private static final byte[] END = Binary.op(0x0b);
    private static final byte[] DROP = Binary.op(0x1a);
    private static final byte[] HOST = Binary.imported("h", "h", 0, Binary.u32(0));
    private static final byte[] GLOBAL = Binary.global(I32, 0, ZERO);
    private static final byte[] TABLE = Binary.tables(Binary.limits(1));
    private static final byte[] MEMORY = Binary.memories(Binary.limits(1));

    private TermOneTest() {
    }

    public static void main(String[] args) {
        cutModules();
        valueTypes();
        functionTypes();
        importSorts();
        sections();
        customSections();
        initials();
        instructions();
        names();
        faults();
        faultOrder();
        types();
        imports();
        functions();
        globals();
        exports();
        elements();
        data();
        locals();
        blocks();
        labels();
        nameLengths();
        tables();
        memories();
        largerLimits();
        CHECKS.finish("TermOneTest");
    }

    private static void due(int fault, String what, byte[]... sections) {
        CHECKS.same(what, Binary.faultOf(Binary.module(sections)), fault);
    }

    private static void body(int fault, String what, byte[]... instructions) {
        due(fault, what, NULLARY, ONE, Binary.codes(Binary.body(instructions)));
    }

    /** told() of the only MODULE, which has no FAULT. */
    private static void told(String what, int number, int due, byte[]... sections) {
        WasmMerge x = new WasmMerge();
        Binary.feed(x, Binary.module(sections));
        CHECKS.answers(what, x::add, 0);
        CHECKS.answers(what + " told", () -> x.told(0, number), due);
    }

    private static void cutModules() {
        CHECKS.sentence("MODULES are as in the WebAssembly Core Specification 1.0, binary format and validation, "
            + "of what follows alone.");
        byte[][] sections = {Binary.HEADER, NULLARY, Binary.imports(HOST), Binary.functions(0, 0), TABLE, MEMORY,
            Binary.globals(GLOBAL), Binary.exports(Binary.export("f", 0, 1)), Binary.start(1),
            Binary.elements(Binary.element(ZERO, 1)), Binary.codes(BODY, BODY), Binary.data(Binary.datum(ZERO, 7))};
        byte[] all = Binary.join(sections);
        int[] ends = new int[sections.length];
        int sum = 0;
        for (int i = 0; i < sections.length; i++) {
            sum += sections[i].length;
            ends[i] = sum;
        }
        for (int length = 0; length <= all.length; length++) {
            int section = Arrays.binarySearch(ends, length);
            // between the functions and their bodies it is malformed at each end of a section, too
            boolean whole = section >= 0 && (section < 3 || section >= 10);
            CHECKS.same("the first " + length + " bytes", Binary.faultOf(Arrays.copyOf(all, length)), whole ? 0 : 1);
        }
        CHECKS.same("a byte more", Binary.faultOf(Binary.join(all, Binary.bytes(0))), 1);
    }

    private static void valueTypes() {
        CHECKS.sentence("Value types i32 and i64.");
        for (int type = 0; type < 256; type++) {
            int due = type == I32 || type == I64 ? 0 : 1;
            due(due, "parameter " + type, Binary.types(Binary.type(NO, I32, type)));
            due(due, "result " + type, Binary.types(Binary.bytes(0x60, 0, 1, type)));
            due(due, "local " + type, NULLARY, ONE,
                Binary.codes(Binary.bodyWith(Binary.locals(1, type), Binary.NOTHING)));
            due(due, "imported global " + type, Binary.imports(Binary.imported("h", "g", 3, Binary.bytes(type, 0))));
            due(due, "global " + type, Binary.globals(Binary.global(type, 0, type == I64 ? Binary.i64(0) : ZERO)));
            body(type == NO ? 0 : due, "block " + type, DEAD, Binary.bytes(0x02, type), DEAD, END, DROP);
            body(type == NO ? 0 : due, "loop " + type, DEAD, Binary.bytes(0x03, type), DEAD, END, DROP);
            body(type == NO ? 0 : due, "if " + type, DEAD, Binary.bytes(0x04, type), DEAD, Binary.op(0x05), DEAD, END,
                DROP);
        }
    }

    private static void functionTypes() {
        CHECKS.sentence("type (functions of at most 6 parameters and 1 result)");
        for (int many = 0; many <= 8; many++) {
            int[] parameters = new int[many];
            Arrays.fill(parameters, I64);
            due(many <= 6 ? 0 : 1, many + " parameters", Binary.types(Binary.type(I32, parameters)));
            due(many <= 1 ? 0 : 1, many + " results", Binary.types(Binary.join(Binary.bytes(0x60, 1, I32),
                Binary.sized(Binary.bytes(parameters)))));
        }
        due(1, "7 parameters behind what is too much", Binary.memories(Binary.limits(3)),
            Binary.types(Binary.type(NO, I32, I32, I32, I32, I32, I32, I32)));
        due(1, "7 parameters among 41 types", Binary.types(Binary.join(Binary.repeat(40, Binary.type(NO)),
            Binary.type(NO, I32, I32, I32, I32, I32, I32, I32))));
    }

    private static void importSorts() {
        CHECKS.sentence("import (function, table, memory, global)");
        byte[][] what = {Binary.u32(0), Binary.table(Binary.limits(0)), Binary.limits(0), Binary.bytes(I32, 0)};
        for (int sort = 0; sort < 4; sort++) {
            due(0, "sort " + sort, NULLARY, Binary.imports(Binary.imported("h", "x", sort, what[sort])));
        }
        for (int sort = 4; sort < 256; sort++) {
            for (byte[] one : what) {
                due(1, "sort " + sort, NULLARY, Binary.imports(Binary.imported("h", "x", sort, one)));
            }
            due(1, "an export of sort " + sort, Binary.globals(GLOBAL), Binary.exports(Binary.export("x", sort, 0)));
        }
    }

    private static void sections() {
        CHECKS.sentence("Sections type (functions of at most 6 parameters and 1 result), import (function, table, "
            + "memory, global), function, table, memory, global, export, start, element, code, data, and custom ones");
        for (int id = 0; id < 256; id++) {
            // a vector of nothing, or an empty name of a custom one; start names function 0, which is not there
            due(id == 8 ? 2 : id < 12 ? 0 : 1, "section " + id, Binary.section(id, Binary.bytes(0)));
            if (id > 0) {
                due(1, "section " + id + " twice", Binary.section(id, Binary.bytes(0)), Binary.section(id,
                    Binary.bytes(0)));
            }
        }
        for (int id = 2; id < 12; id++) {
            due(1, "section " + id + " before the one below it", Binary.section(id, Binary.bytes(0)),
                Binary.section(id - 1, Binary.bytes(0)));
        }
    }

    private static void customSections() {
        CHECKS.sentence("custom ones (their names are read, no more)");
        due(1, "no name", Binary.bytes(0, 0));
        due(0, "an empty name", Binary.bytes(0, 1, 0));
        due(0, "a name that fills it", Binary.bytes(0, 3, 2, 'x', 'y'));
        due(1, "a name with a byte too many", Binary.bytes(0, 3, 3, 'x', 'y'));
        due(1, "a name with a byte too many, and a section behind", Binary.bytes(0, 3, 3, 'x', 'y'), NULLARY);
        due(1, "a name's length that is cut", Binary.bytes(0, 1, 0x80));
        due(1, "a name's length of six bytes", Binary.bytes(0, 6, 0x80, 0x80, 0x80, 0x80, 0x80, 0));
        due(0, "a name of 21 bytes", Binary.section(0, Binary.name(Modules.text(21))));
        due(0, "a name of 3000 bytes", Binary.section(0, Binary.name(Modules.text(3000))));
        due(0, "any bytes behind the name", Binary.section(0, Binary.bytes(1, 0xff, 0xff, 0x80, 0, 0x0b, 1)));
        byte[] custom = Binary.section(0, Binary.bytes(1, 'x', 7));
        due(0, "one before, between and behind", custom, NULLARY, custom, ONE, custom, custom, Binary.codes(BODY),
            custom);
        due(1, "one in which a section is missing", custom, NULLARY, ONE, custom);
    }

    private static void initials() {
        CHECKS.sentence("INITIALS are i32.const, i64.const, or global.get, and end.");
        byte[] imported = Binary.imports(Binary.imported("h", "g", 3, Binary.bytes(I32, 0)),
            Binary.imported("h", "l", 3, Binary.bytes(I64, 0)));
        for (int op = 0; op < 256; op++) {
            boolean one = op == 0x41 || op == 0x42 || op == 0x23;
            byte[] initial = Binary.bytes(op, 0);
            due(!one ? 1 : op == 0x42 ? 2 : 0, "i32 of " + op, imported, Binary.globals(Binary.global(I32, 0,
                initial)));
            due(!one ? 1 : op == 0x42 ? 0 : 2, "i64 of " + op, imported, Binary.globals(Binary.global(I64, 0,
                initial)));
            due(!one ? 1 : op == 0x42 ? 2 : 0, "an element at " + op, imported, TABLE,
                Binary.elements(Binary.element(initial)));
            due(!one ? 1 : op == 0x42 ? 2 : 0, "data at " + op, imported, MEMORY, Binary.data(Binary.datum(initial)));
        }
        byte[][] wrong = {Binary.NOTHING, Binary.join(ZERO, ZERO), Binary.join(Binary.op(0x01), ZERO),
            Binary.join(ZERO, Binary.op(0x01)), Binary.join(ZERO, DROP, ZERO), Binary.join(ZERO, ZERO,
            Binary.op(0x6a))};
        for (byte[] initial : wrong) {
            due(1, "a global of another row", Binary.globals(Binary.global(I32, 0, initial)));
            due(1, "an element of another row", TABLE, Binary.elements(Binary.element(initial)));
            due(1, "data of another row", MEMORY, Binary.data(Binary.datum(initial)));
        }
        due(1, "a global without end", Binary.section(6, Binary.bytes(1, I32, 0, 0x41, 0)));
        due(1, "an element without end", TABLE, Binary.section(9, Binary.bytes(1, 0, 0x41, 0, 0)));
        due(1, "data without end", MEMORY, Binary.section(11, Binary.bytes(1, 0, 0x41, 0, 0)));
    }

    /** One of each kind behind unreachable, where the stack has what it asks for; null for what is none. */
    private static byte[] sample(int op) {
        boolean bare = op == 0x00 || op == 0x01 || op == 0x0f || op == 0x1a || op == 0x1b || op >= 0x45 && op <= 0x5a
            || op >= 0x67 && op <= 0x8a || op == 0xa7 || op == 0xac || op == 0xad;
        boolean access = op >= 0x28 && op <= 0x3e && op != 0x2a && op != 0x2b && op != 0x38 && op != 0x39;
        boolean index = op == 0x0c || op == 0x0d || op == 0x10 || op >= 0x20 && op <= 0x24 || op == 0x3f || op == 0x40
            || op == 0x41 || op == 0x42;
        if (bare) {
            return Binary.op(op);
        }
        if (index) {
            return Binary.op(op, 0);
        }
        if (access) {
            return Binary.access(op, 0, 0);
        }
        switch (op) {
            case 0x02: case 0x03: case 0x04: return Binary.bytes(op, NO, 0x0b);
            case 0x05: return Binary.bytes(0x04, NO, 0x05, 0x0b);
            case 0x0b: return Binary.bytes(0x02, NO, 0x0b);
            case 0x0e: return Binary.labels(0, 0);
            case 0x11: return Binary.indirect(0);
            default: return null;
        }
    }

    private static void instructions() {
        CHECKS.sentence("INSTRUCTIONS: unreachable, nop, block, loop, if, else, end, br, br_if, br_table, return, "
            + "call, "
            + "call_indirect; drop, select; local.get, set, tee, global.get, set; all loads and stores of i32 and i64, "
            + "memory.size, memory.grow; i32.const, i64.const, all tests, comparisons, arithmetic of i32 and i64, "
            + "i32.wrap_i64, i64.extend_i32_s and _u.");
        int known = 0;
        for (int op = 0; op < 256; op++) {
            byte[] sample = sample(op);
            known += sample == null ? 0 : 1;
            byte[] code = Binary.join(DEAD, sample == null ? Binary.bytes(op, 0, 0, 0, 0) : sample, DEAD);
            due(sample == null ? 1 : 0, "instruction " + op, NULLARY, ONE, TABLE, MEMORY,
                Binary.globals(Binary.global(I32, 1, ZERO)),
                Binary.codes(Binary.bodyWith(Binary.locals(1, I32), code)));
        }
        // 13 of control, 2, 5, 12 loads, 7 stores, 2, 2, 22 tests and comparisons, 36 of arithmetic, 3
        CHECKS.same("how many there are", known, 13 + 2 + 5 + 12 + 7 + 2 + 2 + 22 + 36 + 3);
    }

    private static void names() {
        CHECKS.sentence("Names are bytes (any).");
        for (int from = 0; from < 256; from += 16) {
            byte[][] globals = new byte[17][];
            byte[][] exports = new byte[17][];
            byte[][] imports = new byte[17][];
            byte[][] again = new byte[17][];
            for (int i = 0; i < 17; i++) {
                String name = i == 16 ? "" : String.valueOf((char) (from + i));
                globals[i] = Binary.global(I32, 0, Binary.i32(from + i));
                exports[i] = Binary.export(name, 3, i);
                imports[i] = Binary.imported("a", name, 3, Binary.bytes(I32, 0));
                again[i] = Binary.export("e" + i, 3, i);
            }
            WasmMerge x = Binary.running(Binary.module(Binary.globals(globals), Binary.exports(exports)),
                Binary.module(Binary.imports(imports), Binary.exports(again)));
            for (int i = 0; i < 17; i++) {
                int j = i;
                CHECKS.answers("the name of byte " + (from + i), () -> x.global(1, j), from + i);
            }
        }
        due(2, "the empty name twice", Binary.globals(GLOBAL),
            Binary.exports(Binary.export("", 3, 0), Binary.export("", 3, 0)));
        due(2, "a name of a byte of 0 twice", Binary.globals(GLOBAL),
            Binary.exports(Binary.export("\u0000", 3, 0), Binary.export("\u0000", 3, 0)));
        due(0, "bytes of 0, one and two", Binary.globals(GLOBAL),
            Binary.exports(Binary.export("\u0000", 3, 0), Binary.export("\u0000\u0000", 3, 0)));
    }

    private static void faults() {
        CHECKS.sentence("FAULTS of a MODULE: 1 it is malformed (also what is not of this); 2 it is not valid; "
            + "3 there is more of something");
        CHECKS.same("a version of 2", Binary.faultOf(Modules.MALFORMED), 1);
        CHECKS.same("a float, which is not of this", Binary.faultOf(Modules.function(Binary.type(NO),
            Binary.bytes(0x43, 0, 0, 0, 0), DROP)), 1);
        CHECKS.same("a start of no function", Binary.faultOf(Modules.NOT_VALID), 2);
        CHECKS.same("a memory of 3", Binary.faultOf(Modules.TOO_MUCH), 3);
        CHECKS.same("none of them", Binary.faultOf(Modules.EMPTY), 0);
    }

    /** Each of what is too much, with what is not valid before or behind it, and what is malformed. */
    private static void faultOrder() {
        CHECKS.sentence("If it is malformed anywhere 1, else if more of something than may be 3, else 2.");
        byte[] custom = Binary.section(0, Binary.name("x"));
        byte[] broken = Binary.bytes(0, 0);
        byte[] wrongExport = Binary.exports(Binary.export("x", 0, 99));
        byte[][] over = {
            Binary.types(Binary.times(41, Binary.type(NO))),
            Binary.imports(Binary.times(31, Binary.imported("h", "h", 3, Binary.bytes(I32, 0)))),
            Binary.join(NULLARY, Binary.functions(new int[61])),
            Binary.tables(Binary.limits(201)), Binary.memories(Binary.limits(3)),
            Binary.globals(Binary.times(31, GLOBAL)),
            Binary.imports(Binary.imported("h", Modules.text(21), 3, Binary.bytes(I32, 0))),
        };
        for (int i = 0; i < over.length; i++) {
            byte[] codes = i == 2 ? Binary.codes(Binary.times(61, BODY)) : custom;
            due(3, "too much " + i, over[i], codes);
            due(3, "too much " + i + ", then not valid", over[i], wrongExport, codes);
            due(1, "too much " + i + ", then malformed", over[i], codes, broken);
            due(1, "malformed, then too much " + i, broken, over[i], codes);
            due(1, "too much " + i + ", then not valid, then malformed", over[i], wrongExport, codes, broken);
        }
        due(3, "not valid, then too much", Binary.imports(Binary.imported("h", "h", 0, Binary.u32(5))),
            Binary.memories(Binary.limits(3)));
        due(1, "not valid, then malformed", Binary.imports(Binary.imported("h", "h", 0, Binary.u32(5))), broken);
        due(1, "malformed, then not valid", broken, Binary.imports(Binary.imported("h", "h", 0, Binary.u32(5))));
        due(2, "not valid", Binary.imports(Binary.imported("h", "h", 0, Binary.u32(5))), custom);
        body(3, "a body that is not valid, and too deep", DROP, Binary.repeat(31, Binary.bytes(2, NO)),
            Binary.repeat(31, END));
        body(1, "a body that is not valid, too deep and malformed", DROP, Binary.repeat(31, Binary.bytes(2, NO)),
            Binary.repeat(31, END), Binary.op(0x06));
        due(3, "two tables, the second too large", Binary.tables(Binary.limits(0), Binary.limits(201)));
        due(3, "a second limit below the first, which is too large", Binary.memories(Binary.limits(3, 0)));
        due(2, "a second limit below the first", Binary.memories(Binary.limits(1, 0)));
    }

    private static void types() {
        CHECKS.sentence("40 types");
        told("40 types", 0, 40, Binary.types(Binary.times(40, Binary.type(I32, I64))));
        told("the last of 40", 2, 1, Binary.types(Binary.times(40, Binary.type(NO))), Binary.functions(39),
            Binary.codes(BODY));
        byte[] forty = Binary.types(Binary.times(40, Binary.type(NO)));
        due(2, "a function of the one behind the last of 40", forty, Binary.functions(40), Binary.codes(BODY));
        due(2, "an import of it", forty, Binary.imports(Binary.imported("h", "h", 0, Binary.u32(40))));
        due(2, "an indirect call of it", forty, ONE, TABLE, Binary.codes(Binary.body(ZERO, Binary.indirect(40))));
        due(0, "an indirect call of the last", forty, ONE, TABLE, Binary.codes(Binary.body(ZERO, Binary.indirect(39))));
        due(3, "41 types", Binary.types(Binary.times(41, Binary.type(I32, I64))));
        due(3, "200 types", Binary.types(Binary.times(200, Binary.type(NO))));
        due(3, "41 types, of which the last is used", Binary.types(Binary.times(41, Binary.type(NO))),
            Binary.functions(40), Binary.codes(BODY));
    }

    private static void imports() {
        CHECKS.sentence("30 imports");
        told("30 imports", 1, 30, NULLARY, Binary.imports(Binary.times(30, HOST)));
        due(3, "31 imports", NULLARY, Binary.imports(Binary.times(31, HOST)));
        byte[][] mixed = new byte[31][];
        for (int i = 0; i < 31; i++) {
            mixed[i] = i % 2 == 0 ? HOST : Binary.imported("h", "g", 3, Binary.bytes(I64, 1));
        }
        mixed[3] = Binary.imported("h", "t", 1, Binary.table(Binary.limits(0)));
        mixed[4] = Binary.imported("h", "m", 2, Binary.limits(0));
        told("30 imports of all sorts", 1, 30, NULLARY, Binary.imports(Arrays.copyOf(mixed, 30)));
        due(3, "31 imports of all sorts", NULLARY, Binary.imports(mixed));
    }

    private static void functions() {
        CHECKS.sentence("60 functions (imported ones too)");
        for (int imported : new int[] {0, 1, 30}) {
            byte[] hosts = Binary.imports(Binary.times(imported, HOST));
            int own = 60 - imported;
            told("60 functions, " + imported + " imported", 2, 60, NULLARY, hosts, Binary.functions(new int[own]),
                Binary.codes(Binary.times(own, BODY)));
            due(3, "61 functions, " + imported + " imported", NULLARY, hosts, Binary.functions(new int[own + 1]),
                Binary.codes(Binary.times(own + 1, BODY)));
        }
        byte[][] bodies = Binary.times(60, Binary.body(Binary.i32(1)));
        bodies[59] = Binary.body(Binary.i32(59));
        WasmMerge x = Binary.running(Binary.module(Binary.types(Binary.type(I32)), Binary.functions(new int[60]),
            Binary.exports(Binary.export("f", 0, 59)), Binary.codes(bodies)));
        CHECKS.answers("the last of 60", () -> x.call(0, 0), 59);
        byte[] sixty = Binary.functions(new int[60]);
        for (int index = 59; index <= 60; index++) {
            int due = index == 59 ? 0 : 2;
            byte[][] empty = Binary.times(60, BODY);
            byte[] codes = Binary.codes(empty);
            due(due, "an export of function " + index, NULLARY, sixty, Binary.exports(Binary.export("f", 0, index)),
                codes);
            due(due, "a start of function " + index, NULLARY, sixty, Binary.start(index), codes);
            due(due, "an element of function " + index, NULLARY, sixty, TABLE,
                Binary.elements(Binary.element(ZERO, index)), codes);
            empty[0] = Binary.body(Binary.call(index));
            due(due, "a call of function " + index, NULLARY, sixty, Binary.codes(empty));
        }
    }

    private static void globals() {
        CHECKS.sentence("30 globals (too)");
        byte[] import1 = Binary.imported("h", "g", 3, Binary.bytes(I32, 0));
        for (int imported : new int[] {0, 1, 29}) {
            byte[] imports = Binary.imports(Binary.times(imported, import1));
            told("30 globals, " + imported + " imported", 3, 30, imports, Binary.globals(Binary.times(30 - imported,
                GLOBAL)));
            due(3, "31 globals, " + imported + " imported", imports, Binary.globals(Binary.times(31 - imported,
                GLOBAL)));
        }
        told("30 globals, all imported", 3, 30, Binary.imports(Binary.times(30, import1)));
        due(3, "31 globals, 30 imported", Binary.imports(Binary.times(30, import1)), Binary.globals(GLOBAL));
        byte[] thirty = Binary.globals(Binary.times(30, Binary.global(I32, 1, ZERO)));
        byte[] constant = Binary.globals(Binary.times(30, GLOBAL));
        for (int index = 29; index <= 30; index++) {
            int due = index == 29 ? 0 : 2;
            due(due, "an export of global " + index, thirty, Binary.exports(Binary.export("g", 3, index)));
            due(due, "an element at global " + index, TABLE, constant, Binary.elements(Binary.element(Binary.op(0x23,
                index))));
            due(due, "data at global " + index, MEMORY, constant, Binary.data(Binary.datum(Binary.op(0x23, index))));
            due(due, "global.get of global " + index, NULLARY, ONE, thirty,
                Binary.codes(Binary.body(Binary.op(0x23, index), DROP)));
            due(due, "global.set of global " + index, NULLARY, ONE, thirty,
                Binary.codes(Binary.body(ZERO, Binary.op(0x24, index))));
        }
        staleGlobals();
    }

    /** What a MODULE before had more of is not there for the next one in its place. */
    private static void staleGlobals() {
        WasmMerge x = new WasmMerge();
        for (int many = 30; many >= 28; many--) {
            Binary.feed(x, Binary.module(TABLE, Binary.globals(Binary.times(many, GLOBAL)),
                Binary.elements(Binary.element(Binary.op(0x23, many - 1)))));
            CHECKS.answers(many + " globals", x::add, 0);
            x.clear();
            Binary.feed(x, Binary.module(TABLE, Binary.globals(Binary.times(many, GLOBAL)),
                Binary.elements(Binary.element(Binary.op(0x23, many)))));
            CHECKS.throwing("the one behind the last of " + many, x::add, UnsupportedOperationException.class);
            CHECKS.same("its FAULT", x.fault(), 2);
        }
    }

    private static void exports() {
        CHECKS.sentence("40 exports");
        told("40 exports", 4, 40, Binary.globals(GLOBAL), Binary.exports(Modules.exportsOf(40, 3, 0)));
        told("the last of 40", 49, 3, Binary.globals(GLOBAL), Binary.exports(Modules.exportsOf(40, 3, 0)));
        due(3, "41 exports", Binary.globals(GLOBAL), Binary.exports(Modules.exportsOf(41, 3, 0)));
        byte[][] twice = Modules.exportsOf(41, 3, 0);
        twice[40] = twice[0];
        due(3, "41 exports, the last by the name of the first", Binary.globals(GLOBAL), Binary.exports(twice));
    }

    private static void elements() {
        CHECKS.sentence("20 elements");
        told("20 elements", 5, 20, TABLE, Binary.elements(Binary.times(20, Binary.element(ZERO))));
        due(3, "21 elements", TABLE, Binary.elements(Binary.times(21, Binary.element(ZERO))));
        told("one element of 21", 5, 1, NULLARY, ONE, TABLE, Binary.elements(Binary.element(ZERO, new int[21])),
            Binary.codes(BODY));
    }

    private static void data() {
        CHECKS.sentence("20 data");
        told("20 data", 6, 20, MEMORY, Binary.data(Binary.times(20, Binary.datum(ZERO, 1))));
        due(3, "21 data", MEMORY, Binary.data(Binary.times(21, Binary.datum(ZERO, 1))));
        told("data of 21 bytes", 6, 1, MEMORY, Binary.data(Binary.datum(ZERO, new int[21])));
    }

    private static void locals() {
        CHECKS.sentence("30 locals (parameters too)");
        for (int parameters = 0; parameters <= 6; parameters += 3) {
            int[] all = new int[parameters];
            Arrays.fill(all, I32);
            byte[] types = Binary.types(Binary.type(I64, all));
            for (int many : new int[] {29, 30, 31, 32}) {
                byte[] locals = Binary.locals(many - parameters, I64);
                // the last one is used
                due(many <= 30 ? 0 : 3, many + " locals, " + parameters + " parameters", types, ONE,
                    Binary.codes(Binary.bodyWith(locals, Binary.get(many - 1))));
            }
        }
        due(0, "30 locals one by one", NULLARY, ONE, Binary.codes(Binary.bodyWith(
            Binary.join(Binary.u32(30), Binary.repeat(30, Binary.bytes(1, I32))), Binary.NOTHING)));
        due(3, "31 locals one by one", NULLARY, ONE, Binary.codes(Binary.bodyWith(
            Binary.join(Binary.u32(31), Binary.repeat(31, Binary.bytes(1, I32))), Binary.NOTHING)));
        due(0, "40 groups of none", NULLARY, ONE, Binary.codes(Binary.bodyWith(
            Binary.join(Binary.u32(40), Binary.repeat(40, Binary.bytes(0, I32))), Binary.NOTHING)));
        due(0, "30 in each of two functions", NULLARY, Binary.functions(0, 0), Binary.codes(
            Binary.times(2, Binary.bodyWith(Binary.locals(30, I32), Binary.NOTHING))));
        due(2, "the local behind the last of 30", NULLARY, ONE,
            Binary.codes(Binary.bodyWith(Binary.locals(30, I32), Binary.join(Binary.get(30), DROP))));
        allLocals();
    }

    /** Each of 30 locals is set, by set or by tee; calls of a function with 30 others leave them as they are. */
    private static void allLocals() {
        byte[] set = Binary.NOTHING;
        byte[] sum = Binary.i64(0);
        for (int i = 1; i < 30; i++) {
            byte[] value = Binary.i64(i * 1000L + 7);
            set = Binary.join(set, value, i % 2 == 0 ? Binary.set(i) : Binary.join(Binary.op(0x22, i), DROP));
            // each counts by its place, so that none can stand for another
            sum = Binary.join(sum, Binary.get(i), Binary.i64(i), Binary.op(0x7e), Binary.op(0x7c));
        }
        long due = 0;
        for (int i = 1; i < 30; i++) {
            due += (i * 1000L + 7) * i;
        }
        byte[] other = Binary.NOTHING;
        for (int i = 0; i < 30; i++) {
            other = Binary.join(other, Binary.i64(-1 - i), Binary.set(i));
        }
        WasmMerge x = Binary.running(Binary.module(Binary.types(Binary.type(I64, I64), Binary.type(NO)),
            Binary.functions(0, 1, 0), Binary.exports(Binary.export("f", 0, 0), Binary.export("z", 0, 2)),
            Binary.codes(Binary.bodyWith(Binary.locals(29, I64), Binary.join(set, Binary.call(1), sum, Binary.get(0),
                Binary.op(0x7c))), Binary.bodyWith(Binary.locals(30, I64), other),
                Binary.bodyWith(Binary.locals(29, I64), Binary.join(sum, Binary.get(0), Binary.op(0x7c))))));
        CHECKS.answers("30 locals that are set", () -> Binary.callWith(x, 0, 0, 5), due + 5);
        CHECKS.answers("30 locals that are not set behind that", () -> Binary.callWith(x, 0, 1, 6), 6);
    }

    private static void blocks() {
        CHECKS.sentence("30 blocks in one another");
        for (int many : new int[] {29, 30, 31, 32, 100}) {
            int due = many <= 30 ? 0 : 3;
            byte[] ends = Binary.repeat(many, END);
            body(due, many + " blocks", Binary.repeat(many, Binary.bytes(0x02, NO)), ends);
            body(due, many + " loops", Binary.repeat(many, Binary.bytes(0x03, NO)), ends);
            body(due, many + " ifs", Binary.repeat(many, Binary.join(ZERO, Binary.bytes(0x04, NO))), ends);
            body(due, many + " ifs behind else", Binary.repeat(many, Binary.join(ZERO, Binary.bytes(0x04, NO, 0x05))),
                ends);
            body(0, many + " blocks, one behind the other", Binary.repeat(many, Binary.bytes(0x02, NO, 0x0b)));
        }
        body(0, "a branch out of 30", Binary.repeat(30, Binary.bytes(0x02, NO)), Binary.op(0x0c, 30), Binary.repeat(30,
            END));
        body(2, "a branch out of 31", Binary.repeat(30, Binary.bytes(0x02, NO)), Binary.op(0x0c, 31), Binary.repeat(30,
            END));
        body(0, "30, twice", Binary.repeat(2, Binary.join(Binary.repeat(30, Binary.bytes(0x03, NO)), Binary.repeat(30,
            END))));
    }

    private static void labels() {
        CHECKS.sentence("20 labels of a br_table (but the last)");
        for (int many : new int[] {0, 1, 19, 20, 21, 22, 200}) {
            body(many <= 20 ? 0 : 3, many + " labels", ZERO, Binary.labels(0, new int[many]));
        }
        int[] outside = new int[20];
        outside[19] = 1;
        body(2, "20 labels, the last of them outside", ZERO, Binary.labels(0, outside));
        body(2, "20 labels, the one behind outside", ZERO, Binary.labels(1, new int[20]));
        int[] deep = new int[20];
        Arrays.fill(deep, 5);
        byte[] five = Binary.repeat(5, Binary.bytes(0x02, NO));
        body(0, "20 labels, then a br_table of fewer blocks", five, ZERO, Binary.labels(5, deep), Binary.repeat(5, END),
            ZERO,
            Binary.labels(0));
        due(0, "no label of the block around", Binary.types(Binary.type(I32)), ONE, Binary.codes(Binary.body(
            Binary.bytes(0x02, NO), ZERO, ZERO, Binary.labels(1, 1), END, ZERO)));
        int[] more = Arrays.copyOf(outside, 21);
        body(3, "21 labels, one outside", ZERO, Binary.labels(0, more));
    }

    private static void nameLengths() {
        CHECKS.sentence("20 bytes of a name (but of custom sections)");
        byte[] global = Binary.bytes(I32, 0);
        for (int length : new int[] {0, 1, 19, 20, 21, 22, 127, 128, 1000}) {
            int due = length <= 20 ? 0 : 3;
            String name = Modules.text(length);
            due(due, "a module's name of " + length, Binary.imports(Binary.imported(name, "x", 3, global)));
            due(due, "an import's name of " + length, Binary.imports(Binary.imported("x", name, 3, global)));
            due(due, "an export's name of " + length, Binary.globals(GLOBAL), Binary.exports(Binary.export(name, 3,
                0)));
            due(0, "a custom section's name of " + length, Binary.section(0, Binary.name(name)));
        }
        due(0, "both names of 20", Binary.imports(Binary.imported(Modules.text(20), Modules.text(20), 3, global)));
    }

    private static void tables() {
        CHECKS.sentence("of its own a table of 200 at first");
        for (long least : new long[] {0, 1, 199, 200, 201, 202, 0x7fffffffL, 0x80000000L, 0xffffffffL}) {
            due(least <= 200 ? 0 : 3, "a table of " + least, Binary.tables(Binary.limits(least)));
            due(0, "an imported table of " + least, Binary.imports(
                Binary.imported("h", "t", 1, Binary.table(Binary.limits(least)))));
        }
        CHECKS.same("a table of 200", Binary.merged(Modules.table(Binary.limits(200))).count(6), 200);
    }

    private static void memories() {
        CHECKS.sentence("a memory of 2 pages at first");
        for (long least : new long[] {0, 1, 2, 3, 4, 65536, 65537, 0xffffffffL}) {
            due(least <= 2 ? 0 : 3, "a memory of " + least, Binary.memories(Binary.limits(least)));
            // beyond 65536 no memory is valid
            due(least <= 65536 ? 0 : 2, "an imported memory of " + least, Binary.imports(
                Binary.imported("h", "m", 2, Binary.limits(least))));
        }
        CHECKS.same("a memory of 2", Binary.running(Modules.memory(Binary.limits(2))).count(5), 2);
    }

    private static void largerLimits() {
        CHECKS.sentence("(Limits of more may stand in it; a table never grows, a memory never beyond 2 pages.)");
        long most = 0xffffffffL;
        due(0, "a table of 200 to the greatest", Binary.tables(Binary.limits(200, most)));
        due(0, "a table of 0 to 201", Binary.tables(Binary.limits(0, 201)));
        due(0, "a memory of 2 to 3", Binary.memories(Binary.limits(2, 3)));
        due(0, "a memory of 2 to 65536", Binary.memories(Binary.limits(2, 65536)));
        due(2, "a memory of 2 to 65537", Binary.memories(Binary.limits(2, 65537)));
        WasmMerge table = Binary.running(Binary.module(Binary.types(Binary.type(NO), Binary.type(NO, I32)),
            Binary.functions(0, 1), Binary.tables(Binary.limits(3, most)), Binary.exports(Binary.export("c", 0, 1)),
            Binary.elements(Binary.element(ZERO, 0, 0, 0)),
            Binary.codes(BODY, Binary.body(Binary.get(0), Binary.indirect(0)))));
        CHECKS.same("a table of 3 to the greatest has", table.count(6), 3);
        CHECKS.same("its last", Binary.callTrap(table, 0, 0, 2), 0);
        CHECKS.same("the one behind", Binary.callTrap(table, 0, 0, 3), 4);
        byte[] grow = Binary.join(Binary.get(0), Binary.bytes(0x40, 0));
        byte[] type = Binary.type(I32, I32);
        byte[][] limits = {Binary.limits(1), Binary.limits(1, 3), Binary.limits(1, 65536)};
        for (byte[] limit : limits) {
            WasmMerge x = Binary.running(Modules.functionWithMemory(limit, type, grow));
            CHECKS.answers("from 1 by 2", () -> Binary.callWith(x, 0, 0, 2), -1);
            CHECKS.answers("from 1 by 1", () -> Binary.callWith(x, 0, 0, 1), 1);
            CHECKS.answers("from 2 by 1", () -> Binary.callWith(x, 0, 0, 1), -1);
            CHECKS.answers("from 2 by 65534", () -> Binary.callWith(x, 0, 0, 65534), -1);
            CHECKS.same("pages", x.count(5), 2);
        }
        WasmMerge one = Binary.running(Modules.functionWithMemory(Binary.limits(1, 1), type, grow));
        CHECKS.answers("beyond a limit of 1", () -> Binary.callWith(one, 0, 0, 1), -1);
        CHECKS.same("pages of 1", one.count(5), 1);
    }
}
