/** Term 2, sentence by sentence: which import FITS what, whose a function is, and LINK FAULTS 4 and 5. */
public final class TermTwoTest {
    private static final Checks CHECKS = new Checks();
    private static final int I32 = Binary.I32;
    private static final int I64 = Binary.I64;
    private static final int NO = Binary.NO;
    private static final byte[] EMPTY = Modules.EMPTY;
    private static final byte[] CONSTANT = Binary.bytes(I32, 0);
    private static final byte[] GIVES = Binary.type(I32);
    // what an import of each sort is, where nothing else is said
    private static final byte[][] LEAST = {Binary.u32(0), Binary.table(Binary.limits(0)), Binary.limits(0), CONSTANT};
    private static final String[] SORTS = {"function", "table", "memory", "global"};

    private TermTwoTest() {
    }

    public static void main(String[] args) {
        sixModules();
        namesOfModules();
        addedModules();
        exportsByName();
        throughImports();
        sorts();
        functionTypes();
        globalTypes();
        firstLimits();
        secondLimits();
        hosts();
        hostsThroughImports();
        hostsOfLaterModules();
        faultOfSortOrType();
        faultOfNone();
        faultOfRing();
        faultOfTwo();
        faultOrder();
        CHECKS.finish("TermTwoTest");
    }

    private static void due(int fault, String what, byte[]... modules) {
        CHECKS.same(what, Binary.linkFaultOf(modules), fault);
    }

    private static byte[] wanting(String module, String name, int sort, byte[] what) {
        return Modules.passing(module, name, "out", sort, what);
    }

    /** Exports f, t, m and g: one of each sort. */
    private static byte[] giving() {
        return Binary.module(Binary.types(Binary.type(NO)), Binary.functions(0), Binary.tables(Binary.limits(0)),
            Binary.memories(Binary.limits(0)), Binary.globals(Binary.global(I32, 0, Binary.i32(5))),
            Binary.exports(Binary.export("f", 0, 0), Binary.export("t", 1, 0), Binary.export("m", 2, 0),
                Binary.export("g", 3, 0)), Binary.codes(Binary.body()));
    }

    private static final String[] NAMES = {"f", "t", "m", "g"};

    /** The MODULE in the midst of EMPTY ones, as number k of many. */
    private static byte[][] among(int many, int k, byte[] module) {
        byte[][] all = Binary.times(many, EMPTY);
        all[k] = module;
        return all;
    }

    private static void sixModules() {
        CHECKS.sentence("THE MERGE has MODULES 0 to 5");
        byte[][] modules = new byte[6][];
        for (int k = 0; k < 6; k++) {
            modules[k] = Modules.function(GIVES, Binary.i32(100 + k));
        }
        WasmMerge x = Binary.running(modules);
        for (int k = 0; k < 6; k++) {
            int asked = k;
            CHECKS.answers("MODULE " + k, () -> x.call(asked, 0), 100 + k);
        }
        CHECKS.throwing("MODULE -1", () -> x.call(-1, 0), IndexOutOfBoundsException.class);
        CHECKS.throwing("MODULE 6", () -> x.call(6, 0), IndexOutOfBoundsException.class);
        CHECKS.same("functions", x.count(2), 6);
        CHECKS.same("types", x.count(0), 1);
    }

    /** Each of six MODULES has a global of its own and imports that of each by its NAME, its own too. */
    private static void namesOfModules() {
        CHECKS.sentence("the NAME of MODULE k is one byte, a and k.");
        byte[][] modules = new byte[6][];
        for (int k = 0; k < 6; k++) {
            byte[][] imports = new byte[6][];
            byte[][] exports = new byte[7][];
            for (int i = 0; i < 6; i++) {
                imports[i] = Binary.imported(Modules.nameOf(i), "g", 3, CONSTANT);
                exports[i] = Binary.export("e" + i, 3, i);
            }
            exports[6] = Binary.export("g", 3, 6);
            modules[k] = Binary.module(Binary.imports(imports),
                Binary.globals(Binary.global(I32, 0, Binary.i32(100 + k))), Binary.exports(exports));
        }
        WasmMerge x = Binary.running(modules);
        CHECKS.same("globals", x.count(3), 6);
        for (int k = 0; k < 6; k++) {
            for (int j = 0; j < 6; j++) {
                int module = k;
                int export = j;
                CHECKS.answers("what MODULE " + k + " has of " + Modules.nameOf(j), () -> x.global(module, export),
                    100 + j);
            }
        }
        byte[][] six = among(6, 0, Modules.global(I32, 0, Binary.i32(1)));
        String[] others = {"", "`", "g", "A", "aa", "ab", "a\u0000", "\u0000", "0", "\u00e1", "\u00ff"};
        for (String other : others) {
            six[5] = wanting(other, "g", 3, CONSTANT);
            due(4, "a global of '" + other + "'", six);
        }
        six[5] = wanting("a", "g", 3, CONSTANT);
        due(0, "a global of 'a'", six);
    }

    private static void addedModules() {
        CHECKS.sentence("An import FITS if its module is the NAME of a MODULE that was added");
        for (int k = 0; k < 6; k++) {
            byte[] wanting = wanting(Modules.nameOf(k), "g", 3, CONSTANT);
            byte[][] too = among(6, k, Modules.global(I32, 0, Binary.i32(1)));
            too[k == 0 ? 5 : 0] = wanting;
            due(0, "a global of MODULE " + k + " of six", too);
            if (k > 0) {
                due(4, "a global of MODULE " + k + " of " + k, among(k, 0, wanting));
            }
        }
        // behind clear, what was there is not there any more
        WasmMerge x = Binary.merged(wanting("b", "g", 3, CONSTANT), Modules.global(I32, 0, Binary.i32(1)));
        x.clear();
        Binary.feed(x, wanting("b", "g", 3, CONSTANT));
        x.add();
        CHECKS.throwing("a MODULE that was cleared", x::merge, UnsupportedOperationException.class);
        // a MODULE with a FAULT was not added
        WasmMerge y = Binary.with(wanting("b", "g", 3, CONSTANT));
        Binary.feed(y, Binary.module(Binary.globals(Binary.global(I32, 0, Binary.i32(1))),
            Binary.exports(Binary.export("g", 3, 0), Binary.export("h", 3, 1))));
        CHECKS.throwing("a MODULE with a FAULT", y::add, UnsupportedOperationException.class);
        CHECKS.throwing("a MODULE that was refused", y::merge, UnsupportedOperationException.class);
        CHECKS.same("its LINK FAULT", y.fault(), 4);
    }

    private static void exportsByName() {
        CHECKS.sentence("and its name one of that's exports");
        byte[][] exports = new byte[40][];
        byte[][] globals = new byte[30][];
        for (int i = 0; i < 40; i++) {
            exports[i] = Binary.export(Modules.text(19 - i / 26) + (char) ('a' + i % 26), 3, i % 30);
        }
        for (int i = 0; i < 30; i++) {
            globals[i] = Binary.global(I32, 0, Binary.i32(i));
        }
        byte[] giving = Binary.module(Binary.globals(globals), Binary.exports(exports));
        for (int i = 0; i < 40; i++) {
            WasmMerge x = Binary.running(giving, wanting("a", Modules.text(19 - i / 26) + (char) ('a' + i % 26), 3,
                CONSTANT));
            CHECKS.answers("export " + i, () -> x.global(1, 0), i % 30);
        }
        due(4, "a name one byte longer", giving, wanting("a", Modules.text(18) + "aa", 3, CONSTANT));
        due(4, "a name one byte shorter", giving, wanting("a", Modules.text(19), 3, CONSTANT));
        due(4, "a name whose last byte is another", giving, wanting("a", Modules.text(19) + "{", 3, CONSTANT));
        due(4, "a name of nothing", giving, wanting("a", "", 3, CONSTANT));
        due(4, "the NAME of the MODULE itself", giving, wanting("a", "a", 3, CONSTANT));
    }

    /** Chains of one to five imports between what is wanted and what is there, forwards and backwards. */
    private static void throughImports() {
        CHECKS.sentence("(if this is an import, too, that which this FITS)");
        for (int many = 2; many <= 6; many++) {
            byte[][] down = new byte[many][];
            byte[][] up = new byte[many][];
            for (int k = 0; k < many; k++) {
                down[k] = k == 0 ? Modules.global(I32, 0, Binary.i32(77))
                    : Modules.passing(Modules.nameOf(k - 1), "g", "g", 3, CONSTANT);
                up[k] = k == many - 1 ? Modules.global(I32, 0, Binary.i32(78))
                    : Modules.passing(Modules.nameOf(k + 1), "g", "g", 3, CONSTANT);
            }
            WasmMerge x = Binary.running(down);
            WasmMerge y = Binary.running(up);
            CHECKS.same("one global", x.count(3), 1);
            CHECKS.same("one global", y.count(3), 1);
            for (int k = 0; k < many; k++) {
                int asked = k;
                CHECKS.answers(many + " MODULES, from " + k + " down", () -> x.global(asked, 0), 77);
                CHECKS.answers(many + " MODULES, from " + k + " up", () -> y.global(asked, 0), 78);
            }
            // what the end lacks, the chain lacks
            down[0] = EMPTY;
            due(4, many + " MODULES, nothing at the end", down);
            down[0] = Modules.global(I64, 0, Binary.i64(77));
            due(4, many + " MODULES, another type at the end", down);
            down[0] = Modules.global(I32, 1, Binary.i32(77));
            due(4, many + " MODULES, one that can be set at the end", down);
        }
    }

    private static void sorts() {
        CHECKS.sentence("It must be of the same sort");
        for (int wanted = 0; wanted < 4; wanted++) {
            for (int given = 0; given < 4; given++) {
                byte[] module = wanting("a", NAMES[given], wanted, LEAST[wanted]);
                String what = SORTS[given] + " as a " + SORTS[wanted];
                due(given == wanted ? 0 : 4, what, giving(), module);
                due(given == wanted ? 0 : 4, what + " of another MODULE",
                    Modules.passing("b", NAMES[given], "p", given, LEAST[given]), giving(),
                    wanting("a", "p", wanted, LEAST[wanted]));
            }
        }
    }

    private static void functionTypes() {
        CHECKS.sentence("and the same type (functions, globals with mutability)");
        int[][] parameters = {{}, {I32}, {I64}, {I32, I32}, {I32, I64}, {I64, I32}, {I32, I32, I32, I32, I32, I32},
            {I32, I32, I32, I32, I32, I64}, {I64, I32, I32, I32, I32, I32}, {I32, I32, I32, I32, I32}};
        int[] results = {NO, I32, I64};
        for (int given = 0; given < 30; given++) {
            byte[] gives = Binary.type(results[given % 3], parameters[given / 3]);
            byte[] module = Modules.function(gives, Binary.op(0));
            for (int wanted = 0; wanted < 30; wanted++) {
                byte[] wants = Binary.type(results[wanted % 3], parameters[wanted / 3]);
                due(given == wanted ? 0 : 4, "type " + given + " as " + wanted, module,
                    Modules.passing(wants, "a", "f", "f", 0, Binary.u32(0)));
            }
        }
        // the same type by another number
        due(0, "the same type, number 39", Modules.function(GIVES, Binary.i32(1)), Binary.module(
            Binary.section(1, Binary.join(Binary.u32(40), Binary.repeat(39, Binary.type(NO)), GIVES)),
            Binary.imports(Binary.imported("a", "f", 0, Binary.u32(39)))));
    }

    private static void globalTypes() {
        CHECKS.sentence("and the same type (functions, globals with mutability)");
        for (int given = 0; given < 4; given++) {
            int type = given < 2 ? I32 : I64;
            byte[] module = Modules.global(type, given % 2, type == I32 ? Binary.i32(1) : Binary.i64(1));
            for (int wanted = 0; wanted < 4; wanted++) {
                due(given == wanted ? 0 : 4, "global " + given + " as " + wanted, module,
                    wanting("a", "g", 3, Binary.bytes(wanted < 2 ? I32 : I64, wanted % 2)));
            }
        }
    }

    private static void limits(int fault, String what, byte[] given, byte[] wanted) {
        due(fault, "a table, " + what, Modules.table(given), wanting("a", "t", 1, Binary.table(wanted)));
        due(fault, "a table of another, " + what, Modules.passing("b", "t", "t", 1, Binary.table(Binary.limits(0))),
            Modules.table(given), wanting("a", "t", 1, Binary.table(wanted)));
    }

    private static void memoryLimits(int fault, String what, byte[] given, byte[] wanted) {
        due(fault, "a memory, " + what, Modules.memory(given), wanting("a", "m", 2, wanted));
        due(fault, "a memory of another, " + what, Modules.passing("b", "m", "m", 2, Binary.limits(0)),
            Modules.memory(given), wanting("a", "m", 2, wanted));
    }

    private static void firstLimits() {
        CHECKS.sentence("of a table or memory the first limit of the import must not be above that of what it FITS");
        for (int given : new int[] {0, 1, 199, 200}) {
            for (int wanted : new int[] {0, 1, 2, 198, 199, 200, 201}) {
                limits(wanted <= given ? 0 : 4, wanted + " of " + given, Binary.limits(given), Binary.limits(wanted));
            }
            limits(4, "the greatest of " + given, Binary.limits(given), Binary.limits(0xffffffffL));
        }
        for (int given = 0; given <= 2; given++) {
            for (int wanted = 0; wanted <= 4; wanted++) {
                memoryLimits(wanted <= given ? 0 : 4, wanted + " of " + given, Binary.limits(given),
                    Binary.limits(wanted));
            }
            memoryLimits(4, "65536 of " + given, Binary.limits(given), Binary.limits(65536));
        }
        // the size that a memory has grown to is not what is asked for
        memoryLimits(4, "2 of 1 to 2", Binary.limits(1, 2), Binary.limits(2));
    }

    private static void secondLimits() {
        CHECKS.sentence("and, if it has a second one, that must have one that is not above it.");
        long[] seconds = {2, 3, 4, 200, 65535, 65536};
        for (long given : seconds) {
            for (long wanted : seconds) {
                limits(given <= wanted ? 0 : 4, "to " + wanted + " of " + given, Binary.limits(2, given),
                    Binary.limits(1, wanted));
                memoryLimits(given <= wanted ? 0 : 4, "to " + wanted + " of " + given, Binary.limits(2, given),
                    Binary.limits(1, wanted));
            }
            limits(0, "no second one of " + given, Binary.limits(2, given), Binary.limits(2));
            memoryLimits(0, "no second one of " + given, Binary.limits(2, given), Binary.limits(2));
            limits(4, "to " + given + " of none", Binary.limits(2), Binary.limits(2, given));
            memoryLimits(4, "to " + given + " of none", Binary.limits(2), Binary.limits(2, given));
        }
        limits(0, "no second one of none", Binary.limits(2), Binary.limits(2));
        limits(0, "to the greatest", Binary.limits(2, 0xffffffffL), Binary.limits(2, 0xffffffffL));
        limits(4, "to the greatest but one", Binary.limits(2, 0xffffffffL), Binary.limits(2, 0xfffffffeL));
        limits(4, "to the greatest of none", Binary.limits(2), Binary.limits(2, 0xffffffffL));
        limits(4, "the first one too large, the second one right", Binary.limits(2, 5), Binary.limits(3, 5));
        limits(0, "to 0 of 0", Binary.limits(0, 0), Binary.limits(0, 0));
        memoryLimits(0, "to 0 of 0", Binary.limits(0, 0), Binary.limits(0, 0));
        memoryLimits(4, "to 0 of 1", Binary.limits(0, 1), Binary.limits(0, 0));
    }

    private static void hosts() {
        CHECKS.sentence("An import of a function that does not FIT as there is no such MODULE or export is a HOST's.");
        String[][] names = {{"b", "f"}, {"`", "f"}, {"", "f"}, {"aa", "f"}, {"g", "f"}, {"a", "x"}, {"a", ""}, {"a",
            "ff"}};
        for (String[] name : names) {
            WasmMerge x = Binary.running(Binary.module(Binary.types(GIVES),
                Binary.imports(Binary.imported(name[0], name[1], 0, Binary.u32(0))), Binary.functions(0),
                Binary.exports(Binary.export("f", 0, 1), Binary.export("h", 0, 0)),
                Binary.codes(Binary.body(Binary.i32(3)))));
            String what = "'" + name[0] + "' '" + name[1] + "'";
            CHECKS.same(what + " is one of the HOST", x.count(1), 1);
            CHECKS.answers(what + " gives 0", () -> x.call(0, 1), 0);
            CHECKS.same(what + " writes", x.count(7), 1);
        }
        WasmMerge own = Binary.running(Binary.module(Binary.types(GIVES),
            Binary.imports(Binary.imported("a", "f", 0, Binary.u32(0))), Binary.functions(0),
            Binary.exports(Binary.export("f", 0, 1), Binary.export("h", 0, 0)),
            Binary.codes(Binary.body(Binary.i32(3)))));
        CHECKS.same("'a' 'f' is none", own.count(1), 0);
        CHECKS.answers("'a' 'f' is the function", () -> own.call(0, 1), 3);
        due(4, "one of another type is none", Modules.function(GIVES, Binary.i32(3)), wanting("a", "f", 0,
            Binary.u32(0)));
        due(4, "one of another sort is none", Modules.memory(Binary.limits(0)), wanting("a", "m", 0, Binary.u32(0)));
    }

    /** A function that another MODULE has of the HOST and exports is that function. */
    private static void hostsThroughImports() {
        CHECKS.sentence("An import of a function that does not FIT as there is no such MODULE or export is a HOST's.");
        WasmMerge x = Binary.running(Modules.passing(GIVES, "b", "f", "f", 0, Binary.u32(0)),
            Modules.passing(GIVES, "h", "f", "f", 0, Binary.u32(0)),
            Modules.passing(GIVES, "h", "f", "f", 0, Binary.u32(0)));
        CHECKS.same("imports of the HOST", x.count(1), 2);
        CHECKS.answers("through another", () -> x.call(0, 0), 0);
        CHECKS.answers("its number", x::take, 0);
        CHECKS.answers("the other", () -> x.call(2, 0), 0);
        CHECKS.answers("its number", x::take, 1);
    }

    /** The first function of the first MODULE stays itself, by whatever way it is called, if others have a HOST's. */
    private static void hostsOfLaterModules() {
        CHECKS.sentence("An import of a function that does not FIT as there is no such MODULE or export is a HOST's.");
        byte[] nine = Binary.body(Binary.op(0x23, 0), Binary.i32(9), Binary.op(0x6a), Binary.op(0x24, 0));
        byte[] first = Binary.module(Binary.types(Binary.type(NO)), Binary.functions(0, 0, 0),
            Binary.tables(Binary.limits(1)),
            Binary.globals(Binary.global(I32, 1, Binary.i32(0))),
            Binary.exports(Binary.export("f", 0, 0), Binary.export("c", 0, 1), Binary.export("i", 0, 2),
                Binary.export("g", 3, 0)), Binary.start(0), Binary.elements(Binary.element(Binary.i32(0), 0)),
            Binary.codes(nine, Binary.body(Binary.call(0)), Binary.body(Binary.i32(0), Binary.indirect(0))));
        byte[] second = Binary.module(Binary.types(Binary.type(NO)), Binary.imports(Binary.imported("h", "h", 0,
            Binary.u32(0)),
            Binary.imported("a", "f", 0, Binary.u32(0))), Binary.exports(Binary.export("h", 0, 0), Binary.export("f", 0,
            1)));
        WasmMerge x = Binary.running(first, second);
        CHECKS.answers("as a start", () -> x.global(0, 3), 9);
        int[][] ways = {{0, 0}, {0, 1}, {0, 2}, {1, 1}};
        for (int i = 0; i < ways.length; i++) {
            int[] way = ways[i];
            CHECKS.answers("call", () -> x.call(way[0], way[1]), 0);
            CHECKS.answers("export " + way[1] + " of MODULE " + way[0], () -> x.global(0, 3), 18 + 9 * i);
        }
        CHECKS.same("nothing is written", x.count(7), 0);
        CHECKS.answers("the HOST's", () -> x.call(1, 0), 0);
        CHECKS.same("it writes", x.count(7), 1);
    }

    private static void faultOfSortOrType() {
        CHECKS.sentence("LINK FAULTS: 4 one of another sort or type");
        byte[] right = wanting("a", "g", 3, CONSTANT);
        byte[] wrong = wanting("a", "g", 3, Binary.bytes(I32, 1));
        byte[] given = Modules.global(I32, 0, Binary.i32(1));
        due(0, "none", given, right, right, right, right, right);
        for (int k = 1; k < 6; k++) {
            byte[][] modules = {given, right, right, right, right, right};
            modules[k] = wrong;
            due(4, "in MODULE " + k, modules);
        }
        byte[][] many = Binary.times(30, Binary.imported("b", "g", 3, CONSTANT));
        due(0, "30 imports", Binary.module(Binary.imports(many)), given);
        many[29] = Binary.imported("b", "g", 3, Binary.bytes(I64, 0));
        due(4, "the last of 30 imports", Binary.module(Binary.imports(many)), given);
    }

    private static void faultOfNone() {
        CHECKS.sentence("or of a table, memory or global for which there is none");
        for (int sort = 0; sort < 4; sort++) {
            int due = sort == 0 ? 0 : 4;
            due(due, "a " + SORTS[sort] + " of no MODULE", wanting("b", "x", sort, LEAST[sort]));
            due(due, "a " + SORTS[sort] + " of no NAME", wanting("", "x", sort, LEAST[sort]));
            due(due, "a " + SORTS[sort] + " of no export", giving(), wanting("a", "x", sort, LEAST[sort]));
            due(0, "a " + SORTS[sort] + " that is there", giving(), wanting("a", NAMES[sort], sort, LEAST[sort]));
            due(due, "a " + SORTS[sort] + " that is not there for another", wanting("b", "out", sort, LEAST[sort]),
                wanting("h", "x", sort, LEAST[sort]));
        }
    }

    private static void faultOfRing() {
        CHECKS.sentence("or a ring of imports");
        for (int sort = 0; sort < 4; sort++) {
            for (int many = 1; many <= 6; many++) {
                byte[][] ring = new byte[many][];
                for (int k = 0; k < many; k++) {
                    ring[k] = Modules.passing(Modules.nameOf((k + 1) % many), "x", "x", sort, LEAST[sort]);
                }
                due(4, "a ring of " + many + ", " + SORTS[sort], ring);
                ring[many - 1] = giving();
                byte[] last = Modules.passing(Modules.nameOf(many - 1), NAMES[sort], "x", sort, LEAST[sort]);
                if (many > 1) {
                    ring[many - 2] = last;
                    due(0, "no ring of " + many + ", " + SORTS[sort], ring);
                }
            }
            byte[] self = Modules.passing("b", "x", "x", sort, LEAST[sort]);
            due(4, "a way into a ring, " + SORTS[sort], self, self);
            // two imports of one MODULE that go round by its own exports
            due(4, "a ring in one MODULE, " + SORTS[sort], ringOfTwo(sort));
        }
    }

    private static byte[] ringOfTwo(int sort) {
        // of tables and memories a MODULE has but one, which is then its own ring
        if (sort == 1 || sort == 2) {
            return Modules.passing("a", "x", "x", sort, LEAST[sort]);
        }
        return Binary.module(Binary.types(Binary.type(NO)), Binary.imports(Binary.imported("a", "y", sort, LEAST[sort]),
            Binary.imported("a", "x", sort, LEAST[sort])), Binary.exports(Binary.export("x", sort, 0),
            Binary.export("y", sort, 1)));
    }

    private static void faultOfTwo() {
        CHECKS.sentence("5 two tables or two memories in all that are no imports.");
        byte[] table = Modules.table(Binary.limits(1));
        byte[] memory = Modules.memory(Binary.limits(1));
        byte[] tableOfA = wanting("a", "t", 1, Binary.table(Binary.limits(1)));
        byte[] memoryOfA = wanting("a", "m", 2, Binary.limits(1));
        due(0, "no table, no memory", EMPTY, EMPTY);
        due(0, "one table", table, EMPTY);
        due(0, "one table and five imports of it", table, tableOfA, tableOfA, tableOfA, tableOfA, tableOfA);
        due(5, "two tables", table, table);
        due(5, "two tables, first and last", table, EMPTY, EMPTY, EMPTY, EMPTY, table);
        due(5, "two tables of nothing that nobody sees", Binary.module(Binary.tables(Binary.limits(0))),
            Binary.module(Binary.tables(Binary.limits(0))));
        due(5, "two tables and an import", table, table, tableOfA);
        due(5, "six tables", table, table, table, table, table, table);
        due(0, "one memory", EMPTY, memory);
        due(0, "one memory and five imports of it", memory, memoryOfA, memoryOfA, memoryOfA, memoryOfA, memoryOfA);
        due(5, "two memories", memory, memory);
        due(5, "two memories, first and last", memory, EMPTY, EMPTY, EMPTY, EMPTY, memory);
        due(5, "two memories of nothing that nobody sees", Binary.module(Binary.memories(Binary.limits(0))),
            Binary.module(Binary.memories(Binary.limits(0))));
        due(0, "one table and one memory", table, memory);
        due(0, "one table and one memory in one", giving(), EMPTY);
        due(5, "one memory beside both", giving(), memory);
        due(5, "one table beside both", table, giving());
    }

    private static void faultOrder() {
        CHECKS.sentence("UnsupportedOperationException for a LINK FAULT (4 before 5).");
        byte[] table = Modules.table(Binary.limits(1));
        byte[] memory = Modules.memory(Binary.limits(1));
        byte[] wrong = wanting("z", "g", 3, CONSTANT);
        due(5, "5 alone", table, table);
        due(4, "4 before two tables", wrong, table, table);
        due(4, "4 between two tables", table, wrong, table);
        due(4, "4 behind two tables", table, table, wrong);
        due(4, "4 behind two memories", memory, memory, wrong);
        due(4, "a ring behind two memories", memory, memory, wanting("c", "out", 3, CONSTANT));
        due(4, "one of another sort behind two tables", table, table, wanting("a", "t", 3, CONSTANT));
        due(4, "limits that are too large behind two tables", table, table,
            wanting("a", "t", 1, Binary.table(Binary.limits(2))));
    }
}
