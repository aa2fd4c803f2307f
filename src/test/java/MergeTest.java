/** Promises 6, 16 and 17, and Term 2: how MODULES become one. */
public final class MergeTest {
    private static final Checks CHECKS = new Checks();
    private static final int I32 = Binary.I32;
    private static final int I64 = Binary.I64;
    private static final int NO = Binary.NO;
    private static final byte[] EMPTY = Binary.module();
    private static final byte[] TYPES = Binary.types(Binary.type(NO), Binary.type(I32), Binary.type(I64, I32, I64));

    private MergeTest() {
    }

    public static void main(String[] args) {
        states();
        counts();
        types();
        names();
        functionTypes();
        globalTypes();
        sorts();
        limits();
        missing();
        chains();
        chainLimits();
        longChain();
        rings();
        twice();
        hosts();
        itself();
        later();
        full();
        CHECKS.finish("MergeTest");
    }

    private static void due(int fault, String what, byte[]... modules) {
        CHECKS.same(what, Binary.linkFaultOf(modules), fault);
    }

    private static byte[] oneImport(String module, String name, int sort, byte[] what) {
        return Binary.module(TYPES, Binary.imports(Binary.imported(module, name, sort, what)));
    }

    /** Imports something and exports it as name again. */
    private static byte[] passing(String module, String from, String name, int sort, byte[] what) {
        return Binary.module(TYPES, Binary.imports(Binary.imported(module, from, sort, what)),
            Binary.exports(Binary.export(name, sort, 0)));
    }

    /** Exports f of type 0, g of type 1 and h of type 2, which give 0, 7 and 8 times the second. */
    private static byte[] functions() {
        return Binary.module(TYPES, Binary.functions(0, 1, 2),
            Binary.exports(Binary.export("f", 0, 0), Binary.export("g", 0, 1), Binary.export("h", 0, 2)),
            Binary.codes(Binary.body(), Binary.body(Binary.i32(7)),
                Binary.body(Binary.get(1), Binary.i64(8), Binary.op(0x7e))));
    }

    private static byte[] globals() {
        return Binary.module(Binary.globals(Binary.global(I32, 0, Binary.i32(1)),
            Binary.global(I32, 1, Binary.i32(2)), Binary.global(I64, 0, Binary.i64(3)),
            Binary.global(I64, 1, Binary.i64(4))),
            Binary.exports(Binary.export("0", 3, 0), Binary.export("1", 3, 1), Binary.export("2", 3, 2),
                Binary.export("3", 3, 3)));
    }

    /** Each of 180 imports is what the next one FITS; behind the last there is none. */
    private static void longChain() {
        byte[][] modules = new byte[6][];
        for (int k = 0; k < 6; k++) {
            byte[][] imports = new byte[30][];
            byte[][] exports = new byte[30][];
            for (int i = 0; i < 30; i++) {
                int next = k == 5 ? i + 1 : i;
                imports[i] = Binary.imported(String.valueOf((char) ('a' + (k + 1) % 6)), "n" + next, 0, Binary.u32(1));
                exports[i] = Binary.export("n" + i, 0, i);
            }
            modules[k] = Binary.module(TYPES, Binary.imports(imports), Binary.exports(exports));
        }
        WasmMerge x = Binary.merged(modules);
        CHECKS.same("a chain of all imports: hosts", x.count(1), 1);
        CHECKS.same("a chain of all imports: functions", x.count(2), 1);
        x.begin();
        CHECKS.answers("a chain of all imports: call", () -> x.call(0, 0), 0);
        CHECKS.same("a chain of all imports: output", x.count(7), 1);
    }

    private static byte[] table(byte[] limits) {
        return Binary.module(Binary.tables(limits), Binary.exports(Binary.export("t", 1, 0)));
    }

    private static byte[] memory(byte[] limits) {
        return Binary.module(Binary.memories(limits), Binary.exports(Binary.export("m", 2, 0)));
    }

    private static void states() {
        WasmMerge x = new WasmMerge();
        CHECKS.throwing("merge of none", x::merge, IllegalStateException.class);
        CHECKS.throwing("count without", () -> x.count(99), IllegalStateException.class);
        CHECKS.throwing("check without", x::check, IllegalStateException.class);
        Binary.feed(x, EMPTY);
        x.add();
        CHECKS.throwing("count before", () -> x.count(0), IllegalStateException.class);
        CHECKS.throwing("check before", x::check, IllegalStateException.class);
        CHECKS.answers("merge of an empty one", x::merge, 0);
        CHECKS.answers("check", x::check, 0);
        CHECKS.answers("merge again", x::merge, 0);
        for (int what : new int[] {-1, 8, 9, 10, Integer.MIN_VALUE, Integer.MAX_VALUE}) {
            CHECKS.throwing("count(" + what + ")", () -> x.count(what), IllegalArgumentException.class);
        }
        int[] due = {0, 0, 0, 0, 0, -1, -1, 0};
        for (int what = 0; what < 8; what++) {
            int asked = what;
            CHECKS.answers("count(" + what + ") of an empty one", () -> x.count(asked), due[what]);
        }
        x.begin();
        x.argument(3);
        Binary.feed(x, oneImport("b", "g", 3, Binary.bytes(I32, 0)));
        x.add();
        CHECKS.throwing("merge with a fault", x::merge, UnsupportedOperationException.class);
        CHECKS.throwing("no merge behind it", () -> x.count(0), IllegalStateException.class);
        CHECKS.throwing("no check behind it", x::check, IllegalStateException.class);
        CHECKS.throwing("no run behind it", () -> x.memory(0), IllegalStateException.class);
        CHECKS.throwing("no begin behind it", x::begin, IllegalStateException.class);
        CHECKS.answers("the modules stay", () -> x.told(1, 1), 1);
        x.argument(4);
        CHECKS.throwing("merge with a fault again", x::merge, UnsupportedOperationException.class);
        CHECKS.answers("arguments are gone", () -> x.argument(5), 1);
        CHECKS.answers("both are there", x::clear, 2);
    }

    private static void counts() {
        WasmMerge x = Binary.with(functions(), globals(), memory(Binary.limits(2)), table(Binary.limits(17, 99)),
            Binary.module(TYPES, Binary.imports(Binary.imported("a", "f", 0, Binary.u32(0)),
                Binary.imported("b", "3", 3, Binary.bytes(I64, 1)), Binary.imported("x", "f", 0, Binary.u32(2)),
                Binary.imported("a", "i", 0, Binary.u32(0)), Binary.imported("c", "m", 2, Binary.limits(1)),
                Binary.imported("d", "t", 1, Binary.table(Binary.limits(1)))),
                Binary.functions(1), Binary.globals(Binary.global(I32, 0, Binary.i32(0))),
                Binary.exports(Binary.export("f", 0, 0), Binary.export("n", 0, 3)),
                Binary.codes(Binary.body(Binary.i32(5)))));
        CHECKS.answers("merge", x::merge, 6);
        int[] before = {3, 2, 6, 5, 11, -1, 17, 0};
        for (int what = 0; what < 8; what++) {
            int asked = what;
            CHECKS.answers("count(" + what + ")", () -> x.count(asked), before[what]);
        }
        CHECKS.answers("check", x::check, 0);
        CHECKS.answers("merge again", x::merge, 6);
        for (int what = 0; what < 8; what++) {
            int asked = what;
            CHECKS.answers("count(" + what + ") again", () -> x.count(asked), before[what]);
        }
        x.begin();
        int[] behind = {3, 2, 6, 5, 11, 2, 17, 0};
        for (int what = 0; what < 8; what++) {
            int asked = what;
            CHECKS.answers("count(" + what + ") in the run", () -> x.count(asked), behind[what]);
        }
        CHECKS.answers("check in the run", x::check, 0);
        CHECKS.answers("a function of an import of a function", () -> x.call(4, 1), 5);
    }

    private static void types() {
        byte[] many = Binary.module(Binary.types(Binary.type(NO), Binary.type(NO, I32), Binary.type(I32),
            Binary.type(NO, I32), Binary.type(NO, I32, I64), Binary.type(NO, I64, I32), Binary.type(I64)));
        byte[] more = Binary.module(Binary.types(Binary.type(I64), Binary.type(I64, I64), Binary.type(NO)));
        CHECKS.same("types, each once", Binary.merged(many).count(0), 6);
        CHECKS.same("types of all, each once", Binary.merged(many, more, many).count(0), 7);
    }

    private static void names() {
        byte[] g = Binary.bytes(I32, 0);
        due(0, "a", globals(), oneImport("a", "0", 3, g));
        due(4, "b, which imports", globals(), oneImport("b", "0", 3, g));
        due(4, "c, which was not added", globals(), oneImport("c", "0", 3, g));
        due(4, "A", globals(), oneImport("A", "0", 3, g));
        due(4, "no name", globals(), oneImport("", "0", 3, g));
        due(4, "aa", globals(), oneImport("aa", "0", 3, g));
        due(4, "a byte below a", globals(), oneImport("`", "0", 3, g));
        due(4, "a byte of 255", globals(), oneImport("\u00ff", "0", 3, g));
        due(4, "no such export", globals(), oneImport("a", "4", 3, g));
        due(4, "an export's name with more", globals(), oneImport("a", "00", 3, g));
        due(4, "an export's name of nothing", globals(), oneImport("a", "", 3, g));
        due(0, "the last of six", EMPTY, EMPTY, EMPTY, EMPTY, oneImport("f", "0", 3, g), globals());
        byte[] any = Binary.module(Binary.globals(Binary.global(I32, 0, Binary.i32(1))),
            Binary.exports(Binary.export("\u0000\u00ff", 3, 0), Binary.export("", 3, 0)));
        due(0, "names of any bytes", any, oneImport("a", "\u0000\u00ff", 3, g));
        due(0, "a name of no bytes", any, oneImport("a", "", 3, g));
        due(4, "other bytes", any, oneImport("a", "\u0000\u00fe", 3, g));
        byte[] g1 = Binary.module(Binary.globals(Binary.global(I32, 0, Binary.i32(1)),
            Binary.global(I32, 0, Binary.i32(2))), Binary.exports(Binary.export("12345678901234567890", 3, 0),
            Binary.export("12345678901234567891", 3, 1)));
        WasmMerge x = Binary.running(g1, passing("a", "12345678901234567891", "g", 3, g));
        CHECKS.answers("long names are told apart", () -> x.global(1, 0), 2);
    }

    private static void functionTypes() {
        String[] names = {"f", "g", "h"};
        for (int type = 0; type < 3; type++) {
            for (int name = 0; name < 3; name++) {
                due(type == name ? 0 : 4, "function " + names[name] + " as type " + type, functions(),
                    oneImport("a", names[name], 0, Binary.u32(type)));
            }
        }
        byte[] others = Binary.types(Binary.type(I64, I64, I32), Binary.type(I64, I32), Binary.type(I64, I32, I64, I64),
            Binary.type(NO, I32, I64), Binary.type(I32, I32, I64), Binary.type(I64, I32, I64));
        for (int type = 0; type < 6; type++) {
            due(type == 5 ? 0 : 4, "function h as another type " + type, functions(),
                Binary.module(others, Binary.imports(Binary.imported("a", "h", 0, Binary.u32(type)))));
        }
    }

    private static void globalTypes() {
        for (int given = 0; given < 4; given++) {
            for (int asked = 0; asked < 4; asked++) {
                due(given == asked ? 0 : 4, "global " + given + " as " + asked, globals(),
                    oneImport("a", String.valueOf(given), 3, Binary.bytes(asked < 2 ? I32 : I64, asked & 1)));
            }
        }
    }

    private static void sorts() {
        byte[] all = Binary.module(TYPES, Binary.functions(0), Binary.tables(Binary.limits(1)),
            Binary.memories(Binary.limits(1)), Binary.globals(Binary.global(I32, 0, Binary.i32(0))),
            Binary.exports(Binary.export("0", 0, 0), Binary.export("1", 1, 0), Binary.export("2", 2, 0),
                Binary.export("3", 3, 0)), Binary.codes(Binary.body()));
        byte[][] what = {Binary.u32(0), Binary.table(Binary.limits(1)), Binary.limits(1), Binary.bytes(I32, 0)};
        for (int given = 0; given < 4; given++) {
            for (int asked = 0; asked < 4; asked++) {
                due(given == asked ? 0 : 4, "sort " + given + " as " + asked, all,
                    oneImport("a", String.valueOf(given), asked, what[asked]));
            }
        }
    }

    private static void limits() {
        byte[][] asked = {Binary.limits(0), Binary.limits(1), Binary.limits(2), Binary.limits(0, 2),
            Binary.limits(1, 3), Binary.limits(1, 4), Binary.limits(2, 3), Binary.limits(0, 65536)};
        byte[][] given = {Binary.limits(1), Binary.limits(1, 3)};
        int[][] due = {{0, 0, 4, 4, 4, 4, 4, 4}, {0, 0, 4, 4, 0, 0, 4, 0}};
        for (int g = 0; g < 2; g++) {
            for (int a = 0; a < asked.length; a++) {
                due(due[g][a], "memory " + g + " as " + a, memory(given[g]), oneImport("a", "m", 2, asked[a]));
                due(due[g][a], "table " + g + " as " + a, table(given[g]),
                    oneImport("a", "t", 1, Binary.table(asked[a])));
            }
        }
        due(0, "all of a table", table(Binary.limits(200, 0xffffffffL)),
            oneImport("a", "t", 1, Binary.table(Binary.limits(200, 0xffffffffL))));
        due(4, "a table of the greatest", table(Binary.limits(200)),
            oneImport("a", "t", 1, Binary.table(Binary.limits(0xffffffffL))));
    }

    private static void missing() {
        due(0, "a function of none", oneImport("b", "f", 0, Binary.u32(0)));
        due(0, "a function of no export", EMPTY, oneImport("a", "f", 0, Binary.u32(0)));
        due(4, "a table of none", oneImport("b", "t", 1, Binary.table(Binary.limits(0))));
        due(4, "a table of no export", EMPTY, oneImport("a", "t", 1, Binary.table(Binary.limits(0))));
        due(4, "a memory of none", oneImport("b", "m", 2, Binary.limits(0)));
        due(4, "a memory of no export", EMPTY, oneImport("a", "m", 2, Binary.limits(0)));
        due(4, "a global of no export", EMPTY, oneImport("a", "g", 3, Binary.bytes(I32, 0)));
    }

    private static void chains() {
        byte[] g = Binary.bytes(I64, 1);
        WasmMerge x = Binary.merged(passing("b", "x", "y", 3, g), passing("c", "3", "x", 3, g), globals());
        CHECKS.same("globals of a chain", x.count(3), 4);
        x.begin();
        CHECKS.answers("global at the end of a chain", () -> x.global(0, 0), 4);
        byte[] f = Binary.u32(2);
        WasmMerge y = Binary.merged(functions(), passing("a", "h", "i", 0, f), passing("b", "i", "j", 0, f),
            passing("c", "j", "k", 0, f));
        CHECKS.same("functions of a chain", y.count(2), 3);
        y.begin();
        CHECKS.answers("function at the end of a chain", () -> Binary.callWith(y, 3, 0, 1, 5), 40);
        due(4, "another type at the end of a chain", functions(), passing("a", "h", "i", 0, f),
            passing("b", "i", "j", 0, Binary.u32(1)));
        due(4, "another sort in a chain", globals(), passing("a", "0", "i", 3, Binary.bytes(I32, 0)),
            oneImport("b", "i", 0, Binary.u32(0)));
        due(4, "a chain of globals with no end", passing("b", "x", "y", 3, g), passing("c", "x", "x", 3, g), EMPTY);
        WasmMerge z = Binary.merged(passing("b", "x", "y", 0, f), passing("c", "x", "x", 0, f), EMPTY);
        CHECKS.same("a chain to a host: hosts", z.count(1), 1);
        CHECKS.same("a chain to a host: functions", z.count(2), 1);
        z.begin();
        CHECKS.answers("a chain to a host: call", () -> Binary.callWith(z, 0, 0, 3, 4), 0);
        CHECKS.answers("a chain to a host: number", z::take, 0);
        CHECKS.answers("a chain to a host: first", z::take, 3);
        CHECKS.answers("a chain to a host: second", z::take, 4);
        due(4, "a chain to a host of another type", passing("b", "x", "y", 0, Binary.u32(1)),
            passing("c", "x", "x", 0, f), EMPTY);
    }

    /** The limits are those of what stands at the end, not of the imports between. */
    private static void chainLimits() {
        due(0, "memory beyond the import between", memory(Binary.limits(2)),
            passing("a", "m", "n", 2, Binary.limits(0)), oneImport("b", "n", 2, Binary.limits(2)));
        due(4, "memory beyond the end", memory(Binary.limits(1)),
            passing("a", "m", "n", 2, Binary.limits(0)), oneImport("b", "n", 2, Binary.limits(2)));
        due(0, "table with a second limit of the end", table(Binary.limits(1, 4)),
            passing("a", "t", "n", 1, Binary.table(Binary.limits(0))),
            oneImport("b", "n", 1, Binary.table(Binary.limits(0, 5))));
        due(4, "table with a second limit of the import alone", table(Binary.limits(1, 6)),
            passing("a", "t", "n", 1, Binary.table(Binary.limits(0, 6))),
            oneImport("b", "n", 1, Binary.table(Binary.limits(0, 5))));
    }

    private static void rings() {
        byte[] g = Binary.bytes(I32, 0);
        due(4, "a ring of one", passing("a", "x", "x", 3, g));
        due(4, "a ring of one function", passing("a", "x", "x", 0, Binary.u32(0)));
        due(4, "a ring of two functions", passing("b", "y", "x", 0, Binary.u32(0)),
            passing("a", "x", "y", 0, Binary.u32(0)));
        due(4, "a ring of three memories", passing("b", "x", "x", 2, Binary.limits(0)),
            passing("c", "x", "x", 2, Binary.limits(0)), passing("a", "x", "x", 2, Binary.limits(0)));
        due(4, "a way into a ring", oneImport("b", "x", 0, Binary.u32(0)), passing("c", "x", "x", 0, Binary.u32(0)),
            passing("b", "x", "x", 0, Binary.u32(0)));
        due(0, "there and back is no ring", Binary.module(TYPES,
            Binary.imports(Binary.imported("b", "x", 0, Binary.u32(0))), Binary.functions(0),
            Binary.exports(Binary.export("y", 0, 1)), Binary.codes(Binary.body())),
            passing("a", "y", "x", 0, Binary.u32(0)));
    }

    private static void twice() {
        due(5, "two tables", table(Binary.limits(0)), table(Binary.limits(0)));
        due(5, "two memories", memory(Binary.limits(0)), EMPTY, memory(Binary.limits(0)));
        due(5, "two tables and two memories", table(Binary.limits(0)), table(Binary.limits(0)),
            memory(Binary.limits(0)), memory(Binary.limits(0)));
        due(0, "a table and a memory", table(Binary.limits(0)), memory(Binary.limits(0)));
        due(0, "a memory and imports of it", memory(Binary.limits(0)), oneImport("a", "m", 2, Binary.limits(0)),
            oneImport("a", "m", 2, Binary.limits(0)));
        due(4, "4 before 5", memory(Binary.limits(0)), memory(Binary.limits(0)),
            oneImport("a", "m", 3, Binary.bytes(I32, 0)));
        due(4, "4 before 5 in the first", oneImport("z", "m", 3, Binary.bytes(I32, 0)), table(Binary.limits(0)),
            table(Binary.limits(0)));
    }

    private static void hosts() {
        byte[] first = Binary.module(TYPES, Binary.imports(Binary.imported("h", "x", 0, Binary.u32(0)),
            Binary.imported("b", "f", 0, Binary.u32(0)), Binary.imported("h", "x", 0, Binary.u32(0))),
            Binary.exports(Binary.export("0", 0, 0), Binary.export("1", 0, 1), Binary.export("2", 0, 2)));
        byte[] second = Binary.module(TYPES, Binary.imports(Binary.imported("a", "9", 0, Binary.u32(2))),
            Binary.functions(0), Binary.exports(Binary.export("h", 0, 0), Binary.export("f", 0, 1)),
            Binary.codes(Binary.body(Binary.i32(-5), Binary.i64(-6), Binary.call(0), Binary.op(0x1a))));
        WasmMerge x = Binary.merged(first, second);
        CHECKS.same("hosts, each of each module", x.count(1), 3);
        CHECKS.same("functions with them", x.count(2), 4);
        x.begin();
        x.call(0, 2);
        CHECKS.answers("the second of the first module", x::take, 1);
        x.call(0, 0);
        CHECKS.answers("the first of the first module", x::take, 0);
        x.call(0, 1);
        CHECKS.same("three numbers", x.count(7), 3);
        CHECKS.answers("the first of the second module", x::take, 2);
        CHECKS.answers("its i32", x::take, -5);
        CHECKS.answers("its i64", x::take, -6);
        CHECKS.answers("no more", x::take, 0);
    }

    private static void itself() {
        byte[] own = Binary.module(TYPES, Binary.imports(Binary.imported("a", "g", 0, Binary.u32(1))),
            Binary.functions(1), Binary.exports(Binary.export("g", 0, 1), Binary.export("i", 0, 0)),
            Binary.codes(Binary.body(Binary.i32(9))));
        WasmMerge x = Binary.running(own);
        CHECKS.same("a module that imports of itself", x.count(2), 1);
        CHECKS.answers("its import", () -> x.call(0, 1), 9);
    }

    /** What an import FITS may be added later; and what is added later changes what it FITS. */
    private static void later() {
        WasmMerge x = Binary.merged(passing("b", "g", "g", 0, Binary.u32(1)));
        CHECKS.same("a host", x.count(1), 1);
        Binary.feed(x, Binary.module(TYPES, Binary.functions(1), Binary.exports(Binary.export("g", 0, 0)),
            Binary.codes(Binary.body(Binary.i32(11)))));
        x.add();
        CHECKS.answers("merge with it", x::merge, 1);
        CHECKS.same("no host any more", x.count(1), 0);
        x.begin();
        CHECKS.answers("its result", () -> x.call(0, 0), 11);
        x.clear();
        Binary.feed(x, passing("b", "g", "g", 0, Binary.u32(1)));
        x.add();
        CHECKS.answers("merge without it", x::merge, 1);
        CHECKS.same("a host again", x.count(1), 1);
    }

    /** Six MODULES that are as large as may be. */
    private static void full() {
        byte[][] modules = new byte[6][];
        byte[][] exports = new byte[40][];
        for (int j = 0; j < 40; j++) {
            exports[j] = Binary.export("e" + j, 0, 20 + j);
        }
        for (int k = 0; k < 6; k++) {
            byte[][] types = new byte[40][];
            for (int i = 0; i < 40; i++) {
                int n = 40 * k + i;
                types[i] = Binary.type(I32, n % 2 == 0 ? I32 : I64, n / 2 % 2 == 0 ? I32 : I64,
                    n / 4 % 2 == 0 ? I32 : I64, n / 8 % 2 == 0 ? I32 : I64, n / 16 % 2 == 0 ? I32 : I64,
                    n / 32 % 2 == 0 ? I32 : I64);
            }
            modules[k] = Binary.module(Binary.types(types),
                Binary.imports(Binary.times(30, Binary.imported("h", "", 0, Binary.u32(0)))),
                Binary.functions(new int[30]),
                Binary.globals(Binary.times(30, Binary.global(I32, 0, Binary.i32(k)))),
                Binary.exports(exports), Binary.codes(Binary.times(30, Binary.body(Binary.i32(k)))));
        }
        WasmMerge x = Binary.merged(modules);
        CHECKS.same("full: types", x.count(0), 64);
        CHECKS.same("full: hosts", x.count(1), 180);
        CHECKS.same("full: functions", x.count(2), 360);
        CHECKS.same("full: globals", x.count(3), 180);
        CHECKS.same("full: exports", x.count(4), 240);
        x.begin();
        CHECKS.answers("full: the last function", () -> Binary.callWith(x, 5, 39, 1, 2, 3, 4, 5, 6), 5);
        CHECKS.answers("full: the last host", () -> Binary.callWith(x, 5, 9, 1, 2, 3, 4, 5, 6), 0);
        CHECKS.answers("full: its number", x::take, 179);
    }
}
