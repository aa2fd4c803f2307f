import java.util.ArrayList;
import java.util.List;

/** Promise 4 and Term 1: the FAULTS of a MODULE outside of what its bodies do. */
public final class FaultTest {
    private static final Checks CHECKS = new Checks();
    private static final int I32 = Binary.I32;
    private static final int I64 = Binary.I64;
    private static final int NO = Binary.NO;
    private static final byte[] NULLARY = Binary.types(Binary.type(NO));
    private static final byte[] ONE = Binary.functions(0);
    private static final byte[] BODY = Binary.body();
    private static final byte[] ZERO = Binary.i32(0);

    private FaultTest() {
    }

    public static void main(String[] args) {
        header();
        sections();
        custom();
        types();
        imports();
        limits();
        globals();
        exports();
        start();
        elements();
        data();
        codes();
        numbers();
        tooMuch();
        names();
        tooMuchInBodies();
        precedence();
        CHECKS.finish("FaultTest");
    }

    private static void due(int fault, String what, byte[]... sections) {
        CHECKS.same(what, Binary.faultOf(Binary.module(sections)), fault);
    }

    private static void header() {
        CHECKS.same("no bytes", Binary.faultOf(Binary.NOTHING), 1);
        CHECKS.same("the header alone", Binary.faultOf(Binary.HEADER), 0);
        for (int i = 0; i < 8; i++) {
            byte[] other = Binary.HEADER.clone();
            other[i] ^= 1;
            CHECKS.same("header with another byte " + i, Binary.faultOf(other), 1);
            CHECKS.same("header of " + i, Binary.faultOf(java.util.Arrays.copyOf(Binary.HEADER, i)), 1);
        }
    }

    private static void sections() {
        due(0, "every section, all empty", Binary.section(1), Binary.section(2), Binary.section(3),
            Binary.section(4), Binary.section(5), Binary.section(6), Binary.section(7), Binary.section(9),
            Binary.section(10), Binary.section(11));
        for (int id = 1; id <= 11; id++) {
            byte[] section = id == 8 ? Binary.start(0) : Binary.section(id);
            if (id != 8) {
                due(0, "section " + id + " alone", section);
            }
            due(1, "section " + id + " twice", section, section);
            due(1, "section " + id + " with a byte more", Binary.section(id, Binary.bytes(0, 0)));
            due(1, "section " + id + " of no bytes", Binary.section(id, Binary.NOTHING));
            for (int before = 1; before < id; before++) {
                if (id != 8 && before != 8) {
                    due(1, "section " + before + " behind " + id, section, Binary.section(before));
                    due(0, "section " + id + " behind " + before, Binary.section(before), section);
                }
            }
        }
        for (int id : new int[] {12, 13, 64, 127, 128, 255}) {
            due(1, "section " + id, Binary.section(id));
            due(1, "section " + id + " of no bytes", Binary.bytes(id, 0));
        }
        due(1, "what is left of a section could be one", Binary.section(1, Binary.bytes(0, 0, 1, 0)));
        due(1, "what is left of a custom section is not there", Binary.bytes(0, 5, 0));
        due(1, "a section longer than the rest", Binary.bytes(1, 2, 0));
        due(1, "a section without a size", Binary.bytes(1));
        due(1, "a section far too long", Binary.bytes(1, 0xff, 0xff, 0xff, 0xff, 0x0f, 0));
        due(1, "a section shorter than what is in it", Binary.bytes(1, 3, 1, 0x60, 0, 0));
        due(1, "more things than bytes", Binary.section(1, Binary.bytes(5, 0x60, 0, 0)));
    }

    private static void custom() {
        byte[] custom = Binary.section(0, Binary.join(Binary.name("name"), Binary.bytes(1, 2, 0xff, 0)));
        due(0, "custom sections everywhere", custom, custom, NULLARY, custom, ONE, custom,
            Binary.codes(BODY), custom, custom);
        due(0, "an empty name", Binary.section(0, Binary.name("")));
        for (int more : new int[] {62, 63, 64, 125, 126, 127, 128}) {
            due(0, "with more bytes", Binary.section(0, Binary.join(Binary.name(""), new byte[more])));
        }
        due(0, "a long name", Binary.section(0, Binary.name("123456789012345678901234567890")));
        due(0, "a name of any bytes", Binary.section(0, Binary.name("\u00ff\u0080\u00c0")));
        due(1, "no name", Binary.section(0, Binary.NOTHING));
        due(1, "a name longer than the section", Binary.section(0, Binary.bytes(3, 'a', 'b')));
        due(1, "a name that runs on", Binary.section(0, Binary.bytes(3, 'a', 'b')), NULLARY);
        due(1, "an order that is broken around one", ONE, custom, NULLARY);
    }

    private static void types() {
        due(0, "six parameters", Binary.types(Binary.type(I64, I32, I64, I32, I64, I32, I64)));
        due(1, "seven parameters", Binary.types(Binary.type(NO, I32, I32, I32, I32, I32, I32, I32)));
        due(1, "two results", Binary.types(Binary.bytes(0x60, 0, 2, I32, I32)));
        due(1, "two results that could be a type", Binary.section(1, Binary.bytes(2, 0x60, 0, 2, 0x60, 0, 0)));
        due(1, "seven parameters that could be two types",
            Binary.section(1, Binary.bytes(3, 0x60, 7, 0, 0x60, 0, 0, 0x60, 0, 0)));
        for (int type : new int[] {0x7d, 0x7c, 0x7b, 0x70, 0x6f, 0x40, 0x00, 0xff}) {
            due(1, "parameter " + type, Binary.types(Binary.type(NO, type)));
            due(1, "result " + type, Binary.types(Binary.bytes(0x60, 0, 1, type)));
        }
        due(1, "another form", Binary.types(Binary.bytes(0x5f, 0, 0)));
        due(1, "a type that is cut", Binary.section(1, Binary.bytes(1, 0x60, 0)));
        due(0, "the same type twice", Binary.types(Binary.type(I32), Binary.type(I32)));
    }

    private static byte[] importing(int sort, byte[] what) {
        return Binary.imports(Binary.imported("a", "b", sort, what));
    }

    private static void imports() {
        due(0, "function", NULLARY, importing(0, Binary.u32(0)));
        due(2, "function of no type", NULLARY, importing(0, Binary.u32(1)));
        due(2, "function of no type, no types", importing(0, Binary.u32(0)));
        due(2, "function of the greatest type", NULLARY, importing(0, Binary.u32(0xffffffffL)));
        due(0, "table", importing(1, Binary.table(Binary.limits(5))));
        due(1, "table of others", importing(1, Binary.join(Binary.bytes(0x6f), Binary.limits(5))));
        due(0, "memory", importing(2, Binary.limits(1)));
        for (int type : new int[] {I32, I64}) {
            due(0, "global", importing(3, Binary.bytes(type, 0)));
            due(0, "global that can be set", importing(3, Binary.bytes(type, 1)));
            due(1, "global with another flag", importing(3, Binary.bytes(type, 2)));
        }
        due(1, "global of a float", importing(3, Binary.bytes(0x7d, 0)));
        due(1, "sort 4", NULLARY, importing(4, Binary.u32(0)));
        due(1, "sort 255", NULLARY, importing(255, Binary.u32(0)));
        due(1, "sort 4 of no more bytes", NULLARY, importing(4, Binary.NOTHING));
        due(1, "names longer than the section", Binary.section(2, Binary.bytes(1, 1, 'a', 9, 'b', 0, 0)));
        due(0, "the same import twice", NULLARY, Binary.imports(Binary.imported("a", "b", 0, Binary.u32(0)),
            Binary.imported("a", "b", 0, Binary.u32(0))));
        due(2, "two tables", Binary.imports(Binary.times(2, Binary.imported("a", "b", 1,
            Binary.table(Binary.limits(0))))));
        due(2, "two memories", Binary.imports(Binary.times(2, Binary.imported("a", "b", 2, Binary.limits(0)))));
        due(2, "a table beside an import", importing(1, Binary.table(Binary.limits(0))),
            Binary.tables(Binary.limits(0)));
        due(2, "a memory beside an import", importing(2, Binary.limits(0)), Binary.memories(Binary.limits(0)));
        due(0, "a table and a memory", importing(1, Binary.table(Binary.limits(0))),
            Binary.memories(Binary.limits(0)));
    }

    private static void limits() {
        due(0, "table of 200", Binary.tables(Binary.limits(200)));
        due(3, "table of 201", Binary.tables(Binary.limits(201)));
        due(0, "table of 200 to all", Binary.tables(Binary.limits(200, 0xffffffffL)));
        due(0, "table of 3 to 3", Binary.tables(Binary.limits(3, 3)));
        due(2, "table of 3 to 2", Binary.tables(Binary.limits(3, 2)));
        due(3, "table of 201 to 2", Binary.tables(Binary.limits(201, 2)));
        due(2, "two tables", Binary.tables(Binary.limits(0), Binary.limits(0)));
        due(3, "two tables, the first too large", Binary.tables(Binary.limits(201), Binary.limits(0)));
        due(1, "table of others", Binary.section(4, Binary.bytes(1, 0x6f, 0, 0)));
        due(1, "table with flag 2", Binary.section(4, Binary.bytes(1, 0x70, 2, 0)));
        due(1, "table without its second limit", Binary.section(4, Binary.bytes(1, 0x70, 1, 0)));
        due(0, "memory of 2", Binary.memories(Binary.limits(2)));
        due(3, "memory of 3", Binary.memories(Binary.limits(3)));
        due(0, "memory of 2 to 65536", Binary.memories(Binary.limits(2, 65536)));
        due(2, "memory of 2 to 65537", Binary.memories(Binary.limits(2, 65537)));
        due(2, "memory of 2 to 1", Binary.memories(Binary.limits(2, 1)));
        due(3, "memory of 65537", Binary.memories(Binary.limits(65537)));
        due(2, "two memories", Binary.memories(Binary.limits(0), Binary.limits(0)));
        due(1, "memory with flag 3", Binary.section(5, Binary.bytes(1, 3, 0, 1)));
        due(0, "imported table of more", importing(1, Binary.table(Binary.limits(0xffffffffL))));
        due(2, "imported table of 3 to 2", importing(1, Binary.table(Binary.limits(3, 2))));
        due(0, "imported memory of 65536", importing(2, Binary.limits(65536, 65536)));
        due(2, "imported memory of 65537", importing(2, Binary.limits(65537)));
        due(2, "imported memory of 0 to 65537", importing(2, Binary.limits(0, 65537)));
        due(2, "imported memory of 3 to 2", importing(2, Binary.limits(3, 2)));
        due(1, "imported memory with flag 2", importing(2, Binary.bytes(2, 0)));
    }

    private static byte[] imported(int type, int mutable) {
        return Binary.imports(Binary.imported("a", "b", 3, Binary.bytes(type, mutable)));
    }

    private static void globals() {
        byte[] of0 = Binary.op(0x23, 0);
        byte[] of1 = Binary.op(0x23, 1);
        due(0, "i32", Binary.globals(Binary.global(I32, 0, ZERO)));
        due(0, "i64", Binary.globals(Binary.global(I64, 1, Binary.i64(-1))));
        due(2, "i32 from an i64", Binary.globals(Binary.global(I32, 0, Binary.i64(0))));
        due(2, "i64 from an i32", Binary.globals(Binary.global(I64, 0, ZERO)));
        due(0, "from an import", imported(I32, 0), Binary.globals(Binary.global(I32, 1, of0)));
        due(2, "from an import of another type", imported(I64, 0), Binary.globals(Binary.global(I32, 1, of0)));
        due(2, "from an import that can be set", imported(I32, 1), Binary.globals(Binary.global(I32, 1, of0)));
        due(2, "from one before", imported(I32, 0), Binary.globals(Binary.global(I32, 0, ZERO),
            Binary.global(I32, 0, of1)));
        due(2, "from itself", imported(I32, 0), Binary.globals(Binary.global(I32, 0, of1)));
        due(2, "from none", Binary.globals(Binary.global(I32, 0, Binary.op(0x23, 0xffffffffL))));
        due(1, "of a float", Binary.globals(Binary.global(0x7d, 0, ZERO)));
        due(1, "with another flag", Binary.globals(Binary.global(I32, 2, ZERO)));
        due(1, "from nothing", Binary.globals(Binary.global(I32, 0, Binary.NOTHING)));
        due(1, "from two", Binary.globals(Binary.global(I32, 0, Binary.join(ZERO, ZERO))));
        due(1, "from a nop and one", Binary.globals(Binary.global(I32, 0, Binary.join(Binary.op(1), ZERO))));
        due(1, "from a sum", Binary.globals(Binary.global(I32, 0, Binary.join(ZERO, ZERO, Binary.op(0x6a)))));
        due(1, "from a local", Binary.globals(Binary.global(I32, 0, Binary.get(0))));
        due(1, "from a float", Binary.globals(Binary.global(I32, 0, Binary.bytes(0x43, 0, 0, 0, 0))));
        due(1, "without end", Binary.section(6, Binary.bytes(1, I32, 0, 0x41, 0)));
    }

    private static byte[] exporting(int sort, long index) {
        return Binary.exports(Binary.join(Binary.name("e"), Binary.bytes(sort), Binary.u32(index)));
    }

    private static void exports() {
        byte[] codes = Binary.codes(BODY);
        byte[] table = Binary.tables(Binary.limits(1));
        byte[] memory = Binary.memories(Binary.limits(1));
        byte[] global = Binary.globals(Binary.global(I32, 1, ZERO));
        due(0, "function", NULLARY, ONE, exporting(0, 0), codes);
        due(2, "no such function", NULLARY, ONE, exporting(0, 1), codes);
        due(0, "table", table, exporting(1, 0));
        due(2, "no such table", table, exporting(1, 1));
        due(2, "no table", exporting(1, 0));
        due(0, "memory", memory, exporting(2, 0));
        due(2, "no such memory", memory, exporting(2, 1));
        due(2, "no memory", table, exporting(2, 0));
        due(0, "global that can be set", global, exporting(3, 0));
        due(2, "no such global", global, exporting(3, 1));
        due(2, "the greatest number", global, exporting(3, 0xffffffffL));
        due(1, "sort 4", global, exporting(4, 0));
        due(0, "imports of all sorts", NULLARY, Binary.imports(
            Binary.imported("a", "b", 0, Binary.u32(0)), Binary.imported("a", "b", 1, Binary.table(Binary.limits(1))),
            Binary.imported("a", "b", 2, Binary.limits(1)), Binary.imported("a", "b", 3, Binary.bytes(I32, 1))),
            Binary.exports(Binary.export("0", 0, 0), Binary.export("1", 1, 0), Binary.export("2", 2, 0),
                Binary.export("3", 3, 0)));
        due(2, "a name twice", global, Binary.exports(Binary.export("e", 3, 0), Binary.export("e", 3, 0)));
        due(2, "an empty name twice", global,
            Binary.exports(Binary.export("", 3, 0), Binary.export("f", 3, 0), Binary.export("", 3, 0)));
        due(0, "names of one beginning", global,
            Binary.exports(Binary.export("e", 3, 0), Binary.export("ee", 3, 0), Binary.export("ef", 3, 0)));
        due(2, "a name of any bytes twice", global,
            Binary.exports(Binary.export("\u00ff", 3, 0), Binary.export("\u00ff", 3, 0)));
        due(0, "names of any bytes", global,
            Binary.exports(Binary.export("\u00ff", 3, 0), Binary.export("\u00fe", 3, 0)));
    }

    private static void start() {
        byte[] two = Binary.types(Binary.type(NO), Binary.type(I32), Binary.type(NO, I32));
        byte[] codes = Binary.codes(BODY, Binary.body(ZERO), BODY);
        byte[] functions = Binary.functions(0, 1, 2);
        due(0, "start", two, functions, Binary.start(0), codes);
        due(2, "start with a result", two, functions, Binary.start(1), codes);
        due(2, "start with a parameter", two, functions, Binary.start(2), codes);
        due(2, "start of none", two, functions, Binary.start(3), codes);
        due(2, "start without functions", Binary.start(0));
        due(0, "start of an import", NULLARY, importing(0, Binary.u32(0)), Binary.start(0));
    }

    private static void elements() {
        byte[] codes = Binary.codes(BODY);
        byte[] table = Binary.tables(Binary.limits(1));
        byte[] global = Binary.globals(Binary.global(I32, 0, ZERO), Binary.global(I32, 1, ZERO),
            Binary.global(I64, 0, Binary.i64(0)));
        due(0, "element", NULLARY, ONE, table, Binary.elements(Binary.element(ZERO, 0, 0)), codes);
        due(0, "of none", table, Binary.elements(Binary.element(ZERO)));
        due(0, "far outside", table, Binary.elements(Binary.element(Binary.i32(-1))));
        due(2, "without a table", NULLARY, ONE, Binary.elements(Binary.element(ZERO)), codes);
        due(2, "in another table", table, Binary.section(9, Binary.bytes(1, 1, 0x41, 0, 0x0b, 0)));
        due(2, "of no such function", NULLARY, ONE, table, Binary.elements(Binary.element(ZERO, 0, 1)), codes);
        due(2, "at an i64", table, Binary.elements(Binary.element(Binary.i64(0))));
        due(0, "at an import", imported(I32, 0), table, Binary.elements(Binary.element(Binary.op(0x23, 0))));
        due(2, "at an import that can be set", imported(I32, 1), table,
            Binary.elements(Binary.element(Binary.op(0x23, 0))));
        due(0, "at a global", table, global, Binary.elements(Binary.element(Binary.op(0x23, 0))));
        due(2, "at a global that can be set", table, global, Binary.elements(Binary.element(Binary.op(0x23, 1))));
        due(2, "at a global of i64", table, global, Binary.elements(Binary.element(Binary.op(0x23, 2))));
        due(2, "at no global", table, global, Binary.elements(Binary.element(Binary.op(0x23, 3))));
        due(2, "at the greatest global", table, global,
            Binary.elements(Binary.element(Binary.op(0x23, 0xffffffffL))));
        due(1, "at nothing", table, Binary.section(9, Binary.bytes(1, 0, 0x0b, 0)));
        due(1, "more functions than bytes", table, Binary.section(9, Binary.bytes(1, 0, 0x41, 0, 0x0b, 2, 0)));
    }

    private static void data() {
        byte[] memory = Binary.memories(Binary.limits(1));
        due(0, "data", memory, Binary.data(Binary.datum(ZERO, 1, 2, 3)));
        due(0, "none", memory, Binary.data(Binary.datum(ZERO)));
        due(0, "far outside", memory, Binary.data(Binary.datum(Binary.i32(-1), 1)));
        due(2, "without a memory", Binary.data(Binary.datum(ZERO)));
        due(2, "in another memory", memory, Binary.section(11, Binary.bytes(1, 1, 0x41, 0, 0x0b, 0)));
        due(2, "at an i64", memory, Binary.data(Binary.datum(Binary.i64(0), 1)));
        due(2, "at no global", memory, Binary.data(Binary.datum(Binary.op(0x23, 0), 1)));
        due(2, "at the greatest global", memory, Binary.data(Binary.datum(Binary.op(0x23, 0xffffffffL), 1)));
        due(0, "in an imported memory at an imported global",
            Binary.imports(Binary.imported("a", "b", 3, Binary.bytes(I32, 0)),
                Binary.imported("a", "m", 2, Binary.limits(1))), Binary.data(Binary.datum(Binary.op(0x23, 0), 1)));
        due(1, "more bytes than there are", memory, Binary.section(11, Binary.bytes(1, 0, 0x41, 0, 0x0b, 2, 0)));
        due(1, "a byte too many", memory, Binary.section(11, Binary.bytes(1, 0, 0x41, 0, 0x0b, 1, 0, 0)));
        due(1, "at nothing", memory, Binary.section(11, Binary.bytes(1, 0, 0x0b, 0)));
        due(1, "at a product", memory, Binary.data(Binary.datum(Binary.join(ZERO, ZERO, Binary.op(0x6c)), 1)));
    }

    private static void codes() {
        due(0, "a body", NULLARY, ONE, Binary.codes(BODY));
        due(1, "no bodies", NULLARY, ONE);
        due(1, "too few bodies", NULLARY, Binary.functions(0, 0), Binary.codes(BODY));
        due(1, "too many bodies", NULLARY, ONE, Binary.codes(BODY, BODY));
        due(1, "bodies of no functions", NULLARY, Binary.codes(BODY));
        due(1, "bodies of imports", NULLARY, importing(0, Binary.u32(0)), Binary.codes(BODY));
        due(2, "a body of no type", NULLARY, Binary.functions(1), Binary.codes(BODY));
        due(1, "a body without end", NULLARY, ONE, Binary.codes(Binary.bytes(2, 0, 1)));
        due(1, "a body of nothing", NULLARY, ONE, Binary.codes(Binary.bytes(0)));
        due(1, "a body of no instructions", NULLARY, ONE, Binary.codes(Binary.bytes(1, 0)));
        due(1, "more behind the end", NULLARY, ONE, Binary.codes(Binary.bytes(3, 0, 0x0b, 0x01)));
        due(1, "two ends", NULLARY, ONE, Binary.codes(Binary.bytes(3, 0, 0x0b, 0x0b)));
        due(1, "a body too short for its size", NULLARY, ONE, Binary.section(10, Binary.bytes(1, 3, 0, 0x0b)));
        due(1, "what is left of a body could be one", NULLARY, Binary.functions(0, 0),
            Binary.section(10, Binary.bytes(2, 5, 0, 0x0b, 2, 0, 0x0b)));
        due(1, "a body that takes of the next", NULLARY, Binary.functions(0, 0),
            Binary.section(10, Binary.bytes(2, 1, 0, 0x0b, 2, 0, 0x0b)));
        due(1, "locals of a float", NULLARY, ONE, Binary.codes(Binary.bodyWith(Binary.locals(1, 0x7d), Binary.NOTHING)));
        due(0, "groups of no locals", NULLARY, ONE,
            Binary.codes(Binary.bodyWith(Binary.bytes(3, 0, I32, 0, I64, 0, I32), Binary.NOTHING)));
        due(1, "locals of 2 to the 32nd", NULLARY, ONE, Binary.codes(Binary.bodyWith(
            Binary.join(Binary.bytes(2), Binary.u32(0xffffffffL), Binary.bytes(I32, 1, I32)), Binary.NOTHING)));
        due(3, "locals of one less", NULLARY, ONE, Binary.codes(Binary.bodyWith(
            Binary.join(Binary.bytes(1), Binary.u32(0xffffffffL), Binary.bytes(I32)), Binary.NOTHING)));
    }

    /** How numbers are written. */
    private static void numbers() {
        due(0, "a number with zeros behind", Binary.section(1, Binary.bytes(0x80, 0x80, 0x80, 0x80, 0x00)));
        due(1, "a number of five bytes and more", Binary.section(1, Binary.bytes(0x80, 0x80, 0x80, 0x80, 0x80)));
        due(1, "i32 of five bytes and more", constant(I32, 0x80, 0x80, 0x80, 0x80, 0x80));
        due(1, "-1 of five bytes and more", constant(I32, 0xff, 0xff, 0xff, 0xff, 0xff));
        due(1, "i64 of ten bytes and more",
            constant(I64, 0x80, 0x80, 0x80, 0x80, 0x80, 0x80, 0x80, 0x80, 0x80, 0x80));
        due(1, "a number of six bytes", Binary.section(1, Binary.bytes(0x80, 0x80, 0x80, 0x80, 0x80, 0x00)));
        due(1, "a number of 33 bits", Binary.tablesOf(Binary.bytes(0xff, 0xff, 0xff, 0xff, 0x1f)));
        due(3, "a number of 32 bits", Binary.tablesOf(Binary.bytes(0xff, 0xff, 0xff, 0xff, 0x0f)));
        due(1, "a number that is cut", Binary.section(1, Binary.bytes(0x80)));
        due(0, "i32 of five bytes", constant(I32, 0x80, 0x80, 0x80, 0x80, 0x00));
        due(0, "least i32", constant(I32, 0x80, 0x80, 0x80, 0x80, 0x78));
        due(0, "greatest i32", constant(I32, 0xff, 0xff, 0xff, 0xff, 0x07));
        due(0, "-1 in five bytes", constant(I32, 0xff, 0xff, 0xff, 0xff, 0x7f));
        due(1, "i32 that is too large", constant(I32, 0xff, 0xff, 0xff, 0xff, 0x0f));
        due(1, "i32 that is too small", constant(I32, 0x80, 0x80, 0x80, 0x80, 0x70));
        due(1, "i32 with other bits behind", constant(I32, 0x80, 0x80, 0x80, 0x80, 0x40));
        due(1, "i32 of six bytes", constant(I32, 0x80, 0x80, 0x80, 0x80, 0x80, 0x00));
        due(0, "i64 of ten bytes", constant(I64, 0x80, 0x80, 0x80, 0x80, 0x80, 0x80, 0x80, 0x80, 0x80, 0x00));
        due(0, "least i64", constant(I64, 0x80, 0x80, 0x80, 0x80, 0x80, 0x80, 0x80, 0x80, 0x80, 0x7f));
        due(1, "i64 that is too large",
            constant(I64, 0xff, 0xff, 0xff, 0xff, 0xff, 0xff, 0xff, 0xff, 0xff, 0x01));
        due(1, "i64 that is too small",
            constant(I64, 0x80, 0x80, 0x80, 0x80, 0x80, 0x80, 0x80, 0x80, 0x80, 0x7e));
        due(1, "i64 of eleven bytes",
            constant(I64, 0x80, 0x80, 0x80, 0x80, 0x80, 0x80, 0x80, 0x80, 0x80, 0x80, 0x00));
    }

    private static byte[] constant(int type, int... number) {
        return Binary.globals(Binary.global(type, 0, Binary.join(Binary.op(type == I32 ? 0x41 : 0x42),
            Binary.bytes(number))));
    }

    private static void tooMuch() {
        byte[] type = Binary.type(NO);
        byte[] function = Binary.imported("a", "b", 0, Binary.u32(0));
        byte[] global = Binary.imported("a", "b", 3, Binary.bytes(I32, 0));
        byte[] own = Binary.global(I32, 0, ZERO);
        due(0, "40 types", Binary.types(Binary.times(40, type)));
        due(3, "41 types", Binary.types(Binary.times(41, type)));
        byte[] forty = Binary.types(Binary.times(40, type));
        due(0, "the last of 40 types", forty, Binary.functions(39), Binary.codes(BODY));
        due(2, "type 40 of 40", forty, Binary.functions(40), Binary.codes(BODY));
        due(2, "an import of type 40 of 40", forty, importing(0, Binary.u32(40)));
        due(2, "an indirect call of type 40 of 40", forty, ONE, Binary.tables(Binary.limits(0)),
            Binary.codes(Binary.body(ZERO, Binary.indirect(40))));
        due(0, "30 imports", NULLARY, Binary.imports(Binary.times(30, function)));
        due(3, "31 imports", NULLARY, Binary.imports(Binary.times(31, function)));
        due(0, "60 functions", NULLARY, Binary.functions(new int[60]), Binary.codes(Binary.times(60, BODY)));
        due(3, "61 functions", NULLARY, Binary.functions(new int[61]), Binary.codes(Binary.times(61, BODY)));
        due(0, "60 functions with imports", NULLARY, Binary.imports(Binary.times(2, function)),
            Binary.functions(new int[58]), Binary.codes(Binary.times(58, BODY)));
        due(3, "61 functions with imports", NULLARY, Binary.imports(Binary.times(2, function)),
            Binary.functions(new int[59]), Binary.codes(Binary.times(59, BODY)));
        due(0, "30 globals", Binary.globals(Binary.times(30, own)));
        due(3, "31 globals", Binary.globals(Binary.times(31, own)));
        due(0, "30 globals with imports", Binary.imports(Binary.times(3, global)),
            Binary.globals(Binary.times(27, own)));
        due(3, "31 globals with imports", Binary.imports(Binary.times(3, global)),
            Binary.globals(Binary.times(28, own)));
        due(0, "40 exports", Binary.globals(own), Binary.exports(manyExports(40)));
        due(3, "41 exports", Binary.globals(own), Binary.exports(manyExports(41)));
        byte[] table = Binary.tables(Binary.limits(1));
        due(0, "20 elements", table, Binary.elements(Binary.times(20, Binary.element(ZERO))));
        due(3, "21 elements", table, Binary.elements(Binary.times(21, Binary.element(ZERO))));
        byte[] memory = Binary.memories(Binary.limits(1));
        due(0, "20 data", memory, Binary.data(Binary.times(20, Binary.datum(ZERO))));
        due(3, "21 data", memory, Binary.data(Binary.times(21, Binary.datum(ZERO))));
        due(0, "many functions in an element", NULLARY, ONE, table,
            Binary.elements(Binary.element(ZERO, new int[1000])), Binary.codes(BODY));
    }

    private static byte[][] manyExports(int many) {
        List<byte[]> exports = new ArrayList<>();
        for (int i = 0; i < many; i++) {
            exports.add(Binary.export("e" + i, 3, 0));
        }
        return exports.toArray(new byte[0][]);
    }

    private static void names() {
        String twenty = "12345678901234567890";
        byte[] global = Binary.bytes(I32, 0);
        byte[] own = Binary.globals(Binary.global(I32, 0, ZERO));
        due(0, "module's name of 20", Binary.imports(Binary.imported(twenty, "", 3, global)));
        due(3, "module's name of 21", Binary.imports(Binary.imported(twenty + "1", "", 3, global)));
        due(0, "import's name of 20", Binary.imports(Binary.imported("", twenty, 3, global)));
        due(3, "import's name of 21", Binary.imports(Binary.imported("", twenty + "1", 3, global)));
        due(0, "export's name of 20", own, Binary.exports(Binary.export(twenty, 3, 0)));
        due(3, "export's name of 21", own, Binary.exports(Binary.export(twenty + "1", 3, 0)));
    }

    private static void body(int fault, String what, byte[]... instructions) {
        due(fault, what, NULLARY, ONE, Binary.codes(Binary.body(instructions)));
    }

    private static void tooMuchInBodies() {
        due(0, "30 locals", NULLARY, ONE, Binary.codes(Binary.bodyWith(Binary.locals(30, I32), Binary.NOTHING)));
        due(3, "31 locals", NULLARY, ONE, Binary.codes(Binary.bodyWith(Binary.locals(31, I32), Binary.NOTHING)));
        due(3, "31 locals in groups", NULLARY, ONE,
            Binary.codes(Binary.bodyWith(Binary.bytes(3, 10, I32, 10, I64, 11, I32), Binary.NOTHING)));
        byte[] three = Binary.types(Binary.type(NO, I32, I32, I64));
        due(0, "30 locals with parameters", three, ONE,
            Binary.codes(Binary.bodyWith(Binary.locals(27, I64), Binary.NOTHING)));
        due(3, "31 locals with parameters", three, ONE,
            Binary.codes(Binary.bodyWith(Binary.locals(28, I64), Binary.NOTHING)));
        due(3, "31 locals with parameters behind an import", Binary.types(Binary.type(NO), Binary.type(NO, I32)),
            importing(0, Binary.u32(0)), Binary.functions(1),
            Binary.codes(Binary.bodyWith(Binary.locals(30, I64), Binary.NOTHING)));
        for (int op : new int[] {2, 3}) {
            byte[] open = Binary.bytes(op, NO);
            body(0, "30 blocks", Binary.repeat(30, open), Binary.repeat(30, Binary.op(0x0b)));
            body(3, "31 blocks", Binary.repeat(31, open), Binary.repeat(31, Binary.op(0x0b)));
        }
        byte[] when = Binary.join(ZERO, Binary.bytes(4, NO));
        body(0, "30 ifs", Binary.repeat(30, when), Binary.repeat(30, Binary.op(0x0b)));
        body(3, "31 ifs", Binary.repeat(31, when), Binary.repeat(31, Binary.op(0x0b)));
        body(0, "40 blocks beside each other", Binary.repeat(40, Binary.bytes(2, NO, 0x0b)));
        body(0, "20 labels", ZERO, Binary.labels(0, new int[20]));
        body(3, "21 labels", ZERO, Binary.labels(0, new int[21]));
        body(3, "200 labels", ZERO, Binary.labels(0, new int[200]));
        body(3, "1300 blocks", Binary.repeat(1300, Binary.bytes(2, NO)), Binary.repeat(1300, Binary.op(0x0b)));
        body(1, "1300 blocks, one open", Binary.repeat(1300, Binary.bytes(2, NO)),
            Binary.repeat(1299, Binary.op(0x0b)));
    }

    private static void precedence() {
        byte[] types = Binary.types(Binary.times(41, Binary.type(NO)));
        byte[] wrong = Binary.exports(Binary.export("e", 0, 9));
        due(3, "too much and not valid", types, wrong);
        due(1, "too much and malformed", types, Binary.section(12));
        due(1, "not valid and malformed", wrong, Binary.section(12));
        due(1, "not valid, too much and malformed", types, wrong, Binary.section(12));
        due(1, "malformed behind a body that is not valid", NULLARY, Binary.functions(0, 0),
            Binary.codes(Binary.body(Binary.op(0x1a)), Binary.body(Binary.op(0x06))));
        due(3, "too much behind a body that is not valid", NULLARY, Binary.functions(0, 0),
            Binary.codes(Binary.body(Binary.op(0x1a)), Binary.bodyWith(Binary.locals(31, I32), Binary.NOTHING)));
        due(1, "malformed behind too many blocks", NULLARY, ONE, Binary.codes(Binary.body(
            Binary.repeat(31, Binary.bytes(2, NO)), Binary.repeat(30, Binary.op(0x0b)))));
        due(1, "malformed behind too many labels", NULLARY, ONE, Binary.codes(Binary.body(
            Binary.labels(0, new int[30]), Binary.op(0x06))));
        due(1, "malformed behind too many functions", NULLARY, Binary.functions(new int[70]),
            Binary.codes(Binary.times(69, BODY)));
        byte[] thirty = Binary.repeat(30, Binary.imported("a", "b", 0, Binary.u32(0)));
        due(3, "too many imports", NULLARY, Binary.section(2, Binary.join(Binary.u32(31), thirty,
            Binary.bytes(1, 'a', 1, 'b', 0, 0))));
        due(1, "malformed among too many imports", NULLARY, Binary.section(2, Binary.join(Binary.u32(31), thirty,
            Binary.bytes(1, 'a', 1, 'b', 7, 0))));
    }
}
