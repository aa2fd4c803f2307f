import java.util.Arrays;

/**
 * MODULES of WebAssembly that are read, validated and merged into one, which is then run.
 * ../shared/DOC.md says what each call promises; README.md says how the classes inside share the work.
 */
public final class WasmMerge {
    private static final int MOST_MODULES = 6;
    private static final int ROW_BYTES = 4000;
    private static final int MOST_TYPES = 40;
    private static final int MOST_IMPORTS = 30;
    private static final int MOST_FUNCTIONS = 60;
    private static final int MOST_GLOBALS = 30;
    private static final int MOST_EXPORTS = 40;
    private static final int MOST_ELEMENTS = 20;
    private static final int MOST_DATA = 20;
    private static final int MOST_LOCALS = 30;
    private static final int MOST_BLOCKS = 30;
    private static final int MOST_LABELS = 20;
    private static final int MOST_NAME = 20;
    private static final int MOST_TABLE = 200;
    private static final int MOST_PAGES = 2;
    private static final int MOST_PARAMETERS = 6;
    private static final int PAGE = 65536;

    private static final int MALFORMED = 1;
    private static final int NOT_VALID = 2;
    private static final int TOO_MUCH = 3;
    private static final int LINK_WRONG = 4;
    private static final int LINK_TWICE = 5;

    private static final int TRAP_UNREACHABLE = 1;
    private static final int TRAP_DIVISION = 2;
    private static final int TRAP_MEMORY = 3;
    private static final int TRAP_TABLE = 4;
    private static final int TRAP_DEPTH = 5;
    private static final int TRAP_SEGMENT = 6;
    private static final int TRAP_STEPS = 7;

    private static final int SORT_FUNCTION = 0;
    private static final int SORT_TABLE = 1;
    private static final int SORT_MEMORY = 2;
    private static final int SORT_GLOBAL = 3;

    private static final int NONE = -1;
    private static final int ANY = 0;
    private static final int I32 = 1;
    private static final int I64 = 2;
    // stands beside the value type of a global that can be set
    private static final int MUTABLE = 4;
    private static final long LOW_32 = 0xffffffffL;

    private static final int OP_UNREACHABLE = 0x00;
    private static final int OP_NOP = 0x01;
    private static final int OP_BLOCK = 0x02;
    private static final int OP_LOOP = 0x03;
    private static final int OP_IF = 0x04;
    private static final int OP_ELSE = 0x05;
    private static final int OP_END = 0x0b;
    private static final int OP_BR = 0x0c;
    private static final int OP_BR_IF = 0x0d;
    private static final int OP_BR_TABLE = 0x0e;
    private static final int OP_RETURN = 0x0f;
    private static final int OP_CALL = 0x10;
    private static final int OP_CALL_INDIRECT = 0x11;
    private static final int OP_DROP = 0x1a;
    private static final int OP_SELECT = 0x1b;
    private static final int OP_LOCAL_GET = 0x20;
    private static final int OP_LOCAL_SET = 0x21;
    private static final int OP_LOCAL_TEE = 0x22;
    private static final int OP_GLOBAL_GET = 0x23;
    private static final int OP_GLOBAL_SET = 0x24;
    private static final int OP_FIRST_LOAD = 0x28;
    private static final int OP_FIRST_STORE = 0x36;
    private static final int OP_LAST_STORE = 0x3e;
    private static final int OP_MEMORY_SIZE = 0x3f;
    private static final int OP_MEMORY_GROW = 0x40;
    private static final int OP_I32_CONST = 0x41;
    private static final int OP_I64_CONST = 0x42;

    // no INSTRUCTION becomes more than three words of code for each of its bytes
    private static final int CODE_WORDS = 3 * ROW_BYTES;

    private final byte[] row = new byte[ROW_BYTES];
    private int rowLength;
    private final Module[] modules = new Module[MOST_MODULES];
    private int moduleCount;
    private final Parser parser;
    private final Validator validator;
    private final Link link;
    private final Machine machine;
    private final long[] arguments = new long[MOST_PARAMETERS];
    private int argumentCount;
    private boolean merged;
    private boolean running;
    private int fault;

    public WasmMerge() {
        for (int k = 0; k < MOST_MODULES; k++) {
            modules[k] = new Module();
        }
        int[] code = new int[MOST_MODULES * CODE_WORDS];
        parser = new Parser(modules[0]);
        validator = new Validator(code, modules[0]);
        link = new Link(modules);
        machine = new Machine(code, link);
    }

    public int feed(int a, int b, int c, int d, int e) throws IllegalStateException {
        if (rowLength > ROW_BYTES - 20) {
            throw new IllegalStateException("the row would have more than 4000 bytes");
        }
        feedWord(a);
        feedWord(b);
        feedWord(c);
        feedWord(d);
        feedWord(e);
        return rowLength;
    }

    private void feedWord(int word) {
        for (int shift = 24; shift >= 0 && rowLength < ROW_BYTES; shift -= 8) {
            row[rowLength] = (byte) (word >> shift);
            rowLength++;
        }
    }

    public int end(int n) throws IllegalArgumentException {
        if (n < 0 || n > rowLength) {
            throw new IllegalArgumentException("the row has not so many bytes");
        }
        rowLength = n;
        return n;
    }

    public int add() throws IllegalStateException, UnsupportedOperationException {
        if (moduleCount >= MOST_MODULES) {
            throw new IllegalStateException("there are six modules");
        }
        int length = rowLength;
        rowLength = 0;
        dropMerge();
        Module module = modules[moduleCount];
        fault = parser.parse(row, length, module);
        if (fault == 0 && !validator.validate(module, moduleCount)) {
            fault = NOT_VALID;
        }
        if (fault != 0) {
            throw new UnsupportedOperationException("the module has a fault");
        }
        moduleCount++;
        return moduleCount - 1;
    }

    public int clear() {
        int before = moduleCount;
        moduleCount = 0;
        dropMerge();
        return before;
    }

    public int merge() throws IllegalStateException, UnsupportedOperationException {
        if (moduleCount == 0) {
            throw new IllegalStateException("there are no modules");
        }
        dropMerge();
        fault = link.connect(moduleCount);
        if (fault != 0) {
            throw new UnsupportedOperationException("the modules do not fit each other");
        }
        merged = true;
        return link.functionCount;
    }

    private void dropMerge() {
        merged = false;
        running = false;
        argumentCount = 0;
    }

    public int begin() throws IllegalStateException, ArithmeticException {
        if (!merged) {
            throw new IllegalStateException("nothing is merged");
        }
        running = true;
        machine.boot();
        if (machine.trap != 0) {
            argumentCount = 0;
            throw new ArithmeticException("the run began with a trap");
        }
        return 0;
    }

    public int argument(long v) throws IllegalStateException {
        if (argumentCount >= MOST_PARAMETERS) {
            throw new IllegalStateException("there are six arguments");
        }
        arguments[argumentCount] = v;
        argumentCount++;
        return argumentCount;
    }

    public long call(int k, int j) throws IllegalStateException, IndexOutOfBoundsException,
            IllegalArgumentException, ArithmeticException {
        if (!running) {
            throw new IllegalStateException("nothing runs");
        }
        if (!hasExport(k, j)) {
            throw new IndexOutOfBoundsException("there is no such export");
        }
        Port export = modules[k].exports[j];
        if (export.sort != SORT_FUNCTION) {
            throw new IllegalArgumentException("the export is no function");
        }
        int function = link.functionAt(k, export.index);
        if (Module.parameterCount(link.signatureOf(function)) != argumentCount) {
            throw new IllegalArgumentException("the function has not so many parameters");
        }
        argumentCount = 0;
        long result = machine.answer(function, arguments);
        if (machine.trap != 0) {
            throw new ArithmeticException("the call trapped");
        }
        return result;
    }

    private boolean hasExport(int k, int j) {
        return k >= 0 && k < moduleCount && j >= 0 && j < modules[k].exportCount;
    }

    public int fault() {
        return fault;
    }

    public int trap() {
        return machine.trap;
    }

    public long take() {
        return machine.takeOutput();
    }

    public int memory(int at) throws IllegalStateException {
        if (!running) {
            throw new IllegalStateException("nothing runs");
        }
        return machine.byteAt(at);
    }

    public long global(int k, int j) throws IllegalStateException, IndexOutOfBoundsException,
            IllegalArgumentException {
        if (!running) {
            throw new IllegalStateException("nothing runs");
        }
        if (!hasExport(k, j)) {
            throw new IndexOutOfBoundsException("there is no such export");
        }
        Port export = modules[k].exports[j];
        if (export.sort != SORT_GLOBAL) {
            throw new IllegalArgumentException("the export is no global");
        }
        return machine.globalValue(link.globalAt(k, export.index));
    }

    public int told(int k, int what) throws IndexOutOfBoundsException, IllegalArgumentException {
        if (k < 0 || k >= moduleCount) {
            throw new IndexOutOfBoundsException("there is no such module");
        }
        int answer = modules[k].tell(what);
        if (answer < 0) {
            throw new IllegalArgumentException("nothing is told by this number");
        }
        return answer;
    }

    public int count(int what) throws IllegalStateException, IllegalArgumentException {
        if (!merged) {
            throw new IllegalStateException("nothing is merged");
        }
        switch (what) {
            case 0: return link.typeCount;
            case 1: return link.hostCount;
            case 2: return link.functionCount;
            case 3: return link.globalCount;
            case 4: return link.exportCount;
            case 5: return running ? machine.pages : NONE;
            case 6: return link.tableSize;
            case 7: return machine.outputCount;
            default: throw new IllegalArgumentException("nothing is counted by this number");
        }
    }

    public int check() throws IllegalStateException {
        if (!merged) {
            throw new IllegalStateException("nothing is merged");
        }
        return 0;
    }

    /** An import, an export, or a table or memory by its limits. Names are places in the MODULE's bytes. */
    private static final class Port {
        int sort;
        int index;
        int moduleAt;
        int moduleLength;
        int nameAt;
        int nameLength;
        int type;
        long least;
        long most;
    }

    /** A function of a MODULE: its type's index, where its body stands, and where its code begins. */
    private static final class Function {
        int type;
        int at;
        int end;
        int locals;
        int entry;
    }

    /** A global, an element or data: its INITIAL, and the place and number of what follows it. */
    private static final class Part {
        int type;
        int target;
        int op;
        long value;
        int at;
        int size;
    }

    /** What one MODULE holds; made once and filled again for each one that is added. */
    private static final class Module {
        final byte[] bytes = new byte[ROW_BYTES];
        // a type is one number: the result in the lowest two bits, then two bits for each parameter
        final int[] types = new int[MOST_TYPES];
        int typeCount;
        final Port[] imports = new Port[MOST_IMPORTS];
        int importCount;
        final Function[] functions = new Function[MOST_FUNCTIONS];
        int functionCount;
        final Part[] globals = new Part[MOST_GLOBALS];
        int globalCount;
        final Port[] exports = new Port[MOST_EXPORTS];
        int exportCount;
        final Part[] elements = new Part[MOST_ELEMENTS];
        int elementCount;
        final Part[] data = new Part[MOST_DATA];
        int dataCount;
        final Port table = new Port();
        int tableCount;
        final Port memory = new Port();
        int memoryCount;
        int start = NONE;

        Module() {
            for (int i = 0; i < MOST_IMPORTS; i++) {
                imports[i] = new Port();
            }
            for (int i = 0; i < MOST_FUNCTIONS; i++) {
                functions[i] = new Function();
            }
            for (int i = 0; i < MOST_GLOBALS; i++) {
                globals[i] = new Part();
            }
            for (int i = 0; i < MOST_EXPORTS; i++) {
                exports[i] = new Port();
            }
            for (int i = 0; i < MOST_ELEMENTS; i++) {
                elements[i] = new Part();
            }
            for (int i = 0; i < MOST_DATA; i++) {
                data[i] = new Part();
            }
        }

        void reset() {
            typeCount = 0;
            importCount = 0;
            functionCount = 0;
            globalCount = 0;
            exportCount = 0;
            elementCount = 0;
            dataCount = 0;
            tableCount = 0;
            memoryCount = 0;
            start = NONE;
        }

        /** What told() answers, or NONE. */
        int tell(int what) {
            switch (what) {
                case 0: return typeCount;
                case 1: return importCount;
                case 2: return functionCount;
                case 3: return globalCount;
                case 4: return exportCount;
                case 5: return elementCount;
                case 6: return dataCount;
                case 7: return start == NONE ? 0 : 1;
                default: return what >= 10 && what - 10 < exportCount ? exports[what - 10].sort : NONE;
            }
        }

        /** Which import is number index of its sort; NONE if that is the MODULE's own. */
        int importOf(int sort, int index) {
            for (int i = 0; i < importCount; i++) {
                if (imports[i].sort == sort && imports[i].index == index) {
                    return i;
                }
            }
            return NONE;
        }

        boolean owns(int sort) {
            int many = sort == SORT_TABLE ? tableCount : memoryCount;
            return many > 0 && importOf(sort, 0) == NONE;
        }

        /** The type of function number index, whose type's index must stand among the types. */
        int signature(int index) {
            int type = index >= 0 && index < functionCount ? functions[index].type : NONE;
            return type >= 0 && type < typeCount ? types[type] : 0;
        }

        boolean sameBytes(int at, Module other, int otherAt, int length) {
            if (at < 0 || otherAt < 0 || length > ROW_BYTES - at || length > ROW_BYTES - otherAt) {
                return false;
            }
            for (int i = 0; i < length; i++) {
                if (bytes[at + i] != other.bytes[otherAt + i]) {
                    return false;
                }
            }
            return true;
        }

        /** The export whose name is the one that port has in module from; NONE without. */
        int exportNamed(Module from, Port port) {
            for (int j = 0; j < exportCount; j++) {
                if (exports[j].nameLength == port.nameLength
                        && sameBytes(exports[j].nameAt, from, port.nameAt, port.nameLength)) {
                    return j;
                }
            }
            return NONE;
        }

        static int result(int signature) {
            return signature & 3;
        }

        static int parameter(int signature, int i) {
            return signature >> (2 + 2 * i) & 3;
        }

        static int parameterCount(int signature) {
            int many = 0;
            while (many < MOST_PARAMETERS && parameter(signature, many) != 0) {
                many++;
            }
            return many;
        }
    }

    /** Reads bytes and INSTRUCTIONS; once something is malformed it stays bad and gives zeros. */
    private static final class Reader {
        private static final int SHAPE_BAD = 0;
        private static final int SHAPE_BARE = 1;
        private static final int SHAPE_BLOCK = 2;
        private static final int SHAPE_INDEX = 3;
        private static final int SHAPE_LABELS = 4;
        private static final int SHAPE_INDIRECT = 5;
        private static final int SHAPE_ACCESS = 6;
        private static final int SHAPE_RESERVED = 7;
        private static final int SHAPE_I32 = 8;
        private static final int SHAPE_I64 = 9;

        private byte[] bytes = new byte[0];
        int at;
        int limit;
        boolean bad;
        int op;
        int index;
        long number;
        // the labels of a br_table, the last one at place labelCount
        final int[] labels = new int[MOST_LABELS + 1];
        int labelCount;

        void open(byte[] from, int start, int stop) {
            bytes = from;
            at = start;
            limit = stop;
            bad = false;
        }

        int u8() {
            if (at < 0 || at >= limit || at >= bytes.length) {
                bad = true;
                return 0;
            }
            int next = bytes[at] & 255;
            at++;
            return next;
        }

        void expect(int wanted) {
            int next = u8();
            bad |= next != wanted;
        }

        /** One of two bytes, 0 or 1. */
        boolean flag() {
            int next = u8();
            bad |= next > 1;
            return next == 1;
        }

        long u32() {
            long value = 0;
            for (int shift = 0; shift < 32; shift += 7) {
                int next = u8();
                value |= (long) (next & 127) << shift;
                if (next < 128) {
                    bad |= value > LOW_32;
                    return bad ? 0 : value;
                }
            }
            bad = true;
            return 0;
        }

        /** A u32 that is an index or a power: beyond int it is too large for any use anyway. */
        int cappedU32() {
            return (int) Math.min(u32(), Integer.MAX_VALUE);
        }

        long signed(int bits) {
            long value = 0;
            for (int shift = 0; shift < bits; shift += 7) {
                int next = u8();
                if (bits - shift < 7) {
                    // the bits beyond the value must all be as its sign
                    int spare = (next & 127) >> (bits - shift - 1);
                    bad |= spare != 0 && spare != 127 >> (bits - shift - 1);
                }
                value |= (long) (next & 127) << shift;
                if (next < 128) {
                    int unused = Math.max(0, 57 - shift);
                    return value << unused >> unused;
                }
            }
            bad = true;
            return 0;
        }

        /** How many things follow; each has a byte at least, so more than the bytes are malformed. */
        int vector() {
            long many = u32();
            if (many > limit - at) {
                bad = true;
                return 0;
            }
            return (int) many;
        }

        void skip(int many) {
            if (many < 0 || many > limit - at) {
                bad = true;
                return;
            }
            at += many;
        }

        /** The next size bytes are all that is read until leave(), which gets what this answers. */
        int enter(long size) {
            int outer = limit;
            if (size < 0 || size > limit - at) {
                bad = true;
            } else {
                limit = at + (int) size;
            }
            return outer;
        }

        void leave(int outer) {
            bad |= at != limit;
            limit = outer;
        }

        int valueType() {
            int type = u8();
            bad |= type != 0x7f && type != 0x7e;
            return 0x80 - type;
        }

        void instruction() {
            op = u8();
            index = 0;
            number = 0;
            labelCount = 0;
            switch (shape(op)) {
                case SHAPE_BARE:
                    break;
                case SHAPE_BLOCK:
                    readBlockType();
                    break;
                case SHAPE_INDEX:
                    index = cappedU32();
                    break;
                case SHAPE_LABELS:
                    labelCount = vector();
                    readLabels();
                    break;
                case SHAPE_INDIRECT:
                    index = cappedU32();
                    expect(0);
                    break;
                case SHAPE_ACCESS:
                    index = cappedU32();
                    number = u32();
                    break;
                case SHAPE_RESERVED:
                    expect(0);
                    break;
                case SHAPE_I32:
                    number = signed(32);
                    break;
                case SHAPE_I64:
                    number = signed(64);
                    break;
                default:
                    bad = true;
                    break;
            }
        }

        private void readBlockType() {
            int type = u8();
            bad |= type != 0x40 && type != 0x7f && type != 0x7e;
            index = type == 0x40 ? 0 : 0x80 - type;
        }

        private void readLabels() {
            for (int i = 0; i <= labelCount && !bad; i++) {
                int label = (int) Math.min(u32(), Integer.MAX_VALUE);
                if (i <= MOST_LABELS) {
                    labels[i] = label;
                }
            }
        }

        private static int shape(int op) {
            if (op == OP_BLOCK || op == OP_LOOP || op == OP_IF) {
                return SHAPE_BLOCK;
            }
            if (op == OP_BR || op == OP_BR_IF || op == OP_CALL || op >= OP_LOCAL_GET && op <= OP_GLOBAL_SET) {
                return SHAPE_INDEX;
            }
            if (op >= OP_FIRST_LOAD && op <= OP_LAST_STORE) {
                return Numbers.accessBytes(op) == 0 ? SHAPE_BAD : SHAPE_ACCESS;
            }
            switch (op) {
                case OP_BR_TABLE: return SHAPE_LABELS;
                case OP_CALL_INDIRECT: return SHAPE_INDIRECT;
                case OP_MEMORY_SIZE: return SHAPE_RESERVED;
                case OP_MEMORY_GROW: return SHAPE_RESERVED;
                case OP_I32_CONST: return SHAPE_I32;
                case OP_I64_CONST: return SHAPE_I64;
                default: return isBare(op) ? SHAPE_BARE : SHAPE_BAD;
            }
        }

        private static boolean isBare(int op) {
            return op == OP_UNREACHABLE || op == OP_NOP || op == OP_ELSE || op == OP_END || op == OP_RETURN
                || op == OP_DROP || op == OP_SELECT || Numbers.isNumeric(op);
        }
    }

    /** The first reading of a MODULE: finds what is malformed, more than may be, or limits that are not valid. */
    private static final class Parser {
        private static final int MAGIC = 0x0061736d;
        private static final int VERSION = 0x01000000;
        private static final int SECTION_CODE = 10;

        private final Reader reader = new Reader();
        private final int[] kinds = new int[ROW_BYTES + 1];
        // take in what stands beyond the limits, of which nothing is kept
        private final Port sparePort = new Port();
        private final Function spareFunction = new Function();
        private final Part sparePart = new Part();
        private Module module;
        private boolean over;
        private boolean wrongLimits;
        private int firstOwn;
        private int ownFunctions;
        private int bodies;

        Parser(Module first) {
            module = first;
        }

        /** The FAULT that is seen so far, or 0; what is valid only the Validator can tell. */
        int parse(byte[] row, int length, Module into) {
            module = into;
            module.reset();
            System.arraycopy(row, 0, module.bytes, 0, length);
            reader.open(module.bytes, 0, length);
            over = false;
            wrongLimits = false;
            firstOwn = 0;
            ownFunctions = 0;
            bodies = 0;
            readHeader();
            int last = 0;
            for (int turn = 0; turn < ROW_BYTES && !reader.bad && reader.at < reader.limit; turn++) {
                int id = reader.u8();
                reader.bad |= id != 0 && id <= last;
                last = Math.max(last, id);
                int outer = reader.enter(reader.u32());
                if (id == SECTION_CODE) {
                    readCodes();
                } else {
                    readSection(id);
                }
                reader.leave(outer);
            }
            if (reader.bad || bodies != ownFunctions) {
                return MALFORMED;
            }
            if (over) {
                return TOO_MUCH;
            }
            return wrongLimits ? NOT_VALID : 0;
        }

        private void readHeader() {
            int magic = 0;
            int version = 0;
            for (int i = 0; i < 4; i++) {
                magic = magic << 8 | reader.u8();
            }
            for (int i = 0; i < 4; i++) {
                version = version << 8 | reader.u8();
            }
            reader.bad |= magic != MAGIC || version != VERSION;
        }

        private void readSection(int id) {
            switch (id) {
                case 0: readCustom(); break;
                case 1: readTypes(); break;
                case 2: readImports(); break;
                case 3: readFunctions(); break;
                case 4: readTables(); break;
                case 5: readMemories(); break;
                case 6: readGlobals(); break;
                case 7: readExports(); break;
                case 8: module.start = reader.cappedU32(); break;
                case 9: readElements(); break;
                case 11: readData(); break;
                default: reader.bad = true; break;
            }
        }

        private void readCustom() {
            reader.skip(reader.vector());
            if (!reader.bad) {
                reader.at = reader.limit;
            }
        }

        private void readTypes() {
            int many = reader.vector();
            for (int i = 0; i < many && !reader.bad; i++) {
                int type = readType();
                if (i < MOST_TYPES) {
                    module.types[i] = type;
                }
            }
            over |= many > MOST_TYPES;
            module.typeCount = Math.min(many, MOST_TYPES);
        }

        private int readType() {
            reader.expect(0x60);
            int parameters = reader.vector();
            reader.bad |= parameters > MOST_PARAMETERS;
            int type = 0;
            for (int i = 0; i < parameters && !reader.bad; i++) {
                type |= reader.valueType() << (2 + 2 * i);
            }
            int results = reader.vector();
            reader.bad |= results > 1;
            return results == 1 ? type | reader.valueType() : type;
        }

        private void readImports() {
            int many = reader.vector();
            for (int i = 0; i < many && !reader.bad; i++) {
                Port port = i < MOST_IMPORTS ? module.imports[i] : sparePort;
                port.moduleLength = readName();
                port.moduleAt = reader.at - port.moduleLength;
                port.nameLength = readName();
                port.nameAt = reader.at - port.nameLength;
                port.sort = reader.u8();
                readImported(port);
            }
            over |= many > MOST_IMPORTS;
            module.importCount = Math.min(many, MOST_IMPORTS);
        }

        private int readName() {
            int length = reader.vector();
            reader.skip(length);
            over |= length > MOST_NAME;
            return length;
        }

        private void readImported(Port port) {
            switch (port.sort) {
                case SORT_FUNCTION:
                    port.type = reader.cappedU32();
                    port.index = module.functionCount;
                    nextFunction().type = port.type;
                    break;
                case SORT_TABLE:
                    port.index = module.tableCount;
                    readLimits(port);
                    break;
                case SORT_MEMORY:
                    port.index = module.memoryCount;
                    readLimits(port);
                    break;
                case SORT_GLOBAL:
                    port.type = readGlobalType();
                    port.index = module.globalCount;
                    nextGlobal().type = port.type;
                    break;
                default:
                    reader.bad = true;
                    break;
            }
        }

        private Function nextFunction() {
            if (module.functionCount >= MOST_FUNCTIONS) {
                over = true;
                return spareFunction;
            }
            module.functionCount++;
            return module.functions[module.functionCount - 1];
        }

        private Part nextGlobal() {
            if (module.globalCount >= MOST_GLOBALS) {
                over = true;
                return sparePart;
            }
            module.globalCount++;
            return module.globals[module.globalCount - 1];
        }

        /** What stands of a table or memory, as an import or not. */
        private void readLimits(Port port) {
            if (port.sort == SORT_TABLE) {
                reader.expect(0x70);
                module.tableCount++;
            } else {
                module.memoryCount++;
            }
            boolean bounded = reader.flag();
            port.least = reader.u32();
            port.most = bounded ? reader.u32() : NONE;
            wrongLimits |= bounded && port.least > port.most;
            wrongLimits |= port.sort == SORT_MEMORY && (port.least > PAGE || port.most > PAGE);
        }

        private int readGlobalType() {
            int type = reader.valueType();
            return reader.flag() ? type | MUTABLE : type;
        }

        private void readFunctions() {
            ownFunctions = reader.vector();
            firstOwn = module.functionCount;
            for (int i = 0; i < ownFunctions && !reader.bad; i++) {
                nextFunction().type = reader.cappedU32();
            }
        }

        private void readTables() {
            int many = reader.vector();
            module.table.sort = SORT_TABLE;
            for (int i = 0; i < many && !reader.bad; i++) {
                readLimits(module.table);
                over |= module.table.least > MOST_TABLE;
            }
        }

        private void readMemories() {
            int many = reader.vector();
            module.memory.sort = SORT_MEMORY;
            for (int i = 0; i < many && !reader.bad; i++) {
                readLimits(module.memory);
                over |= module.memory.least > MOST_PAGES;
            }
        }

        private void readGlobals() {
            int many = reader.vector();
            for (int i = 0; i < many && !reader.bad; i++) {
                Part part = nextGlobal();
                part.type = readGlobalType();
                readInitial(part);
            }
        }

        private void readInitial(Part part) {
            part.op = reader.u8();
            switch (part.op) {
                case OP_I32_CONST: part.value = reader.signed(32); break;
                case OP_I64_CONST: part.value = reader.signed(64); break;
                case OP_GLOBAL_GET: part.value = reader.cappedU32(); break;
                default: reader.bad = true; break;
            }
            reader.expect(OP_END);
        }

        private void readExports() {
            int many = reader.vector();
            for (int i = 0; i < many && !reader.bad; i++) {
                Port port = i < MOST_EXPORTS ? module.exports[i] : sparePort;
                port.nameLength = readName();
                port.nameAt = reader.at - port.nameLength;
                port.sort = reader.u8();
                reader.bad |= port.sort > SORT_GLOBAL;
                port.index = reader.cappedU32();
            }
            over |= many > MOST_EXPORTS;
            module.exportCount = Math.min(many, MOST_EXPORTS);
        }

        private void readElements() {
            int many = reader.vector();
            for (int i = 0; i < many && !reader.bad; i++) {
                Part part = i < MOST_ELEMENTS ? module.elements[i] : sparePart;
                part.target = reader.cappedU32();
                readInitial(part);
                part.size = reader.vector();
                part.at = reader.at;
                for (int n = 0; n < part.size && !reader.bad; n++) {
                    reader.u32();
                }
            }
            over |= many > MOST_ELEMENTS;
            module.elementCount = Math.min(many, MOST_ELEMENTS);
        }

        private void readData() {
            int many = reader.vector();
            for (int i = 0; i < many && !reader.bad; i++) {
                Part part = i < MOST_DATA ? module.data[i] : sparePart;
                part.target = reader.cappedU32();
                readInitial(part);
                part.size = reader.vector();
                part.at = reader.at;
                reader.skip(part.size);
            }
            over |= many > MOST_DATA;
            module.dataCount = Math.min(many, MOST_DATA);
        }

        private void readCodes() {
            bodies = reader.vector();
            for (int i = 0; i < bodies && !reader.bad; i++) {
                int number = firstOwn + i;
                boolean kept = number < module.functionCount;
                Function function = kept ? module.functions[number] : spareFunction;
                int outer = reader.enter(reader.u32());
                function.at = reader.at;
                function.end = reader.limit;
                long locals = readLocals() + Module.parameterCount(kept ? module.signature(number) : 0);
                over |= locals > MOST_LOCALS;
                function.locals = (int) Math.min(locals, MOST_LOCALS);
                readExpression();
                reader.leave(outer);
            }
        }

        private long readLocals() {
            int many = reader.vector();
            long sum = 0;
            for (int i = 0; i < many && !reader.bad; i++) {
                sum += reader.u32();
                reader.valueType();
            }
            reader.bad |= sum > LOW_32;
            return sum;
        }

        private void readExpression() {
            int depth = 0;
            kinds[0] = OP_BLOCK;
            for (int turn = 0; turn < ROW_BYTES && !reader.bad && depth >= 0; turn++) {
                reader.instruction();
                if (reader.op == OP_END) {
                    depth--;
                } else if (reader.op == OP_ELSE) {
                    reader.bad |= kinds[depth] != OP_IF;
                    kinds[depth] = OP_ELSE;
                } else if (reader.op >= OP_BLOCK && reader.op <= OP_IF && depth < ROW_BYTES) {
                    depth++;
                    kinds[depth] = reader.op;
                }
                over |= depth > MOST_BLOCKS || reader.labelCount > MOST_LABELS;
            }
            reader.bad |= depth >= 0;
        }
    }

    /** A block that is open while a body is validated. */
    private static final class Block {
        int op;
        int result;
        int height;
        boolean dead;
        int start;
        int elseAt;
        // the words that wait for where the block ends, each holding the place of the next
        int chain;
    }

    /** The second reading: tells whether a MODULE is valid, and writes the code that the Machine runs. */
    private static final class Validator {
        private final int[] code;
        private final Reader reader = new Reader();
        private Module module;
        private int slot;
        private boolean valid;
        private int out;
        private final int[] stack = new int[ROW_BYTES];
        private int height;
        private final Block[] blocks = new Block[MOST_BLOCKS + 1];
        private int depth;
        private Block block;
        private final int[] locals = new int[MOST_LOCALS];
        private int localCount;

        Validator(int[] shared, Module first) {
            code = shared;
            module = first;
            for (int i = 0; i <= MOST_BLOCKS; i++) {
                blocks[i] = new Block();
            }
            block = blocks[0];
        }

        boolean validate(Module read, int k) {
            module = read;
            slot = k;
            out = k * CODE_WORDS;
            valid = module.tableCount <= 1 && module.memoryCount <= 1;
            seeFunctionTypes();
            seeGlobals();
            seeExports();
            seeStart();
            seeElements();
            seeData();
            for (int f = 0; f < module.functionCount && valid; f++) {
                if (module.importOf(SORT_FUNCTION, f) == NONE) {
                    seeBody(module.functions[f], module.signature(f));
                }
            }
            return valid;
        }

        private void need(boolean condition) {
            valid &= condition;
        }

        private void seeFunctionTypes() {
            for (int f = 0; f < module.functionCount; f++) {
                need(module.functions[f].type < module.typeCount);
            }
        }

        private void seeGlobals() {
            for (int g = 0; g < module.globalCount; g++) {
                if (module.importOf(SORT_GLOBAL, g) == NONE) {
                    Part part = module.globals[g];
                    boolean own = part.op == OP_GLOBAL_GET
                        && module.importOf(SORT_GLOBAL, (int) part.value) == NONE;
                    need(!own && initialType(part) == (part.type & ~MUTABLE));
                }
            }
        }

        private int initialType(Part part) {
            if (part.op == OP_I32_CONST) {
                return I32;
            }
            if (part.op == OP_I64_CONST) {
                return I64;
            }
            if (part.value < 0 || part.value >= module.globalCount) {
                return NONE;
            }
            // one that can be set keeps that mark, and is none of the types that may stand here
            return module.globals[(int) part.value].type;
        }

        private void seeExports() {
            for (int j = 0; j < module.exportCount; j++) {
                Port port = module.exports[j];
                need(port.index < spaceOf(port.sort));
                need(module.exportNamed(module, port) == j);
            }
        }

        private int spaceOf(int sort) {
            switch (sort) {
                case SORT_FUNCTION: return module.functionCount;
                case SORT_TABLE: return module.tableCount;
                case SORT_MEMORY: return module.memoryCount;
                default: return module.globalCount;
            }
        }

        private void seeStart() {
            if (module.start != NONE) {
                need(module.start < module.functionCount && module.signature(module.start) == 0);
            }
        }

        private void seeElements() {
            for (int i = 0; i < module.elementCount; i++) {
                Part part = module.elements[i];
                need(part.target < module.tableCount && initialType(part) == I32);
                reader.open(module.bytes, part.at, ROW_BYTES);
                for (int n = 0; n < part.size; n++) {
                    need(reader.u32() < module.functionCount);
                }
            }
        }

        private void seeData() {
            for (int i = 0; i < module.dataCount; i++) {
                Part part = module.data[i];
                need(part.target < module.memoryCount && initialType(part) == I32);
            }
        }

        private void seeBody(Function function, int signature) {
            reader.open(module.bytes, function.at, function.end);
            localCount = function.locals;
            setLocals(signature);
            function.entry = out;
            height = 0;
            depth = NONE;
            openBlock(OP_BLOCK, Module.result(signature));
            for (int turn = 0; turn < ROW_BYTES && valid && depth >= 0; turn++) {
                reader.instruction();
                if (reader.op <= OP_CALL_INDIRECT) {
                    seeControl(reader.op);
                } else {
                    seePlain(reader.op);
                }
            }
        }

        private void setLocals(int signature) {
            int filled = 0;
            int parameters = Module.parameterCount(signature);
            while (filled < parameters) {
                locals[filled] = Module.parameter(signature, filled);
                filled++;
            }
            int groups = reader.vector();
            for (int i = 0; i < groups; i++) {
                int many = reader.cappedU32();
                int type = reader.valueType();
                for (int n = 0; n < many && filled < MOST_LOCALS; n++) {
                    locals[filled] = type;
                    filled++;
                }
            }
        }

        private void seePlain(int op) {
            if (op <= OP_SELECT) {
                seeChoice(op);
            } else if (op <= OP_LOCAL_TEE) {
                seeLocal(op);
            } else if (op <= OP_GLOBAL_SET) {
                seeGlobal(op);
            } else if (op <= OP_LAST_STORE) {
                seeAccess(op);
            } else if (op <= OP_MEMORY_GROW) {
                seePages(op);
            } else if (op <= OP_I64_CONST) {
                seeConstant(op);
            } else {
                seeNumeric(op);
            }
        }

        private void seeControl(int op) {
            switch (op) {
                case OP_UNREACHABLE:
                    emit(op);
                    die();
                    break;
                case OP_BLOCK:
                case OP_LOOP:
                case OP_IF:
                    seeBlock(op);
                    break;
                case OP_ELSE:
                    seeElse();
                    break;
                case OP_END:
                    seeEnd();
                    break;
                case OP_BR:
                case OP_BR_IF:
                    seeBranch(op, reader.index);
                    break;
                case OP_BR_TABLE:
                    seeBranchTable();
                    break;
                case OP_RETURN:
                    seeReturn();
                    break;
                case OP_CALL:
                    seeCall();
                    break;
                case OP_CALL_INDIRECT:
                    seeCallIndirect();
                    break;
                default:
                    emit(op);
                    break;
            }
        }

        private void openBlock(int op, int result) {
            if (depth >= MOST_BLOCKS) {
                valid = false;
                return;
            }
            depth++;
            block = blocks[depth];
            block.op = op;
            block.result = result;
            block.height = height;
            block.dead = false;
            block.start = out;
            block.elseAt = NONE;
            block.chain = NONE;
        }

        private void seeBlock(int op) {
            if (op == OP_IF) {
                pop(I32);
            }
            emit(op);
            openBlock(op, reader.index);
            if (op == OP_IF) {
                block.elseAt = out;
                emit(NONE);
            }
        }

        private void seeElse() {
            closeArm();
            emit(OP_ELSE);
            emitWaiting(block);
            setWord(block.elseAt, out);
            block.op = OP_ELSE;
            block.dead = false;
            height = block.height;
        }

        private void seeEnd() {
            closeArm();
            if (block.op == OP_IF) {
                need(block.result == 0);
                setWord(block.elseAt, out);
            }
            landBranches();
            int result = block.result;
            height = block.height;
            depth--;
            if (depth < 0) {
                emit(OP_END);
                emit(result == 0 ? 0 : 1);
            } else {
                block = blocks[depth];
                pushResult(result);
            }
        }

        private void closeArm() {
            popResult(block.result);
            need(height == block.height);
        }

        private void landBranches() {
            int place = block.chain;
            for (int turn = 0; turn < CODE_WORDS && place >= 0 && place < code.length; turn++) {
                int next = code[place];
                code[place] = out;
                place = next;
            }
        }

        private boolean hasLabel(int label) {
            boolean has = label >= 0 && label <= depth;
            need(has);
            return has;
        }

        private int labelType(int label) {
            if (!hasLabel(label)) {
                return 0;
            }
            Block target = blocks[depth - label];
            return target.op == OP_LOOP ? 0 : target.result;
        }

        private void seeBranch(int op, int label) {
            if (op == OP_BR_IF) {
                pop(I32);
            }
            int type = labelType(label);
            popResult(type);
            emit(op);
            emitLabel(label);
            if (op == OP_BR_IF) {
                pushResult(type);
            } else {
                die();
            }
        }

        private void seeBranchTable() {
            pop(I32);
            emit(OP_BR_TABLE);
            emit(reader.labelCount);
            int many = Math.min(reader.labelCount, MOST_LABELS);
            int type = labelType(reader.labels[many]);
            for (int i = 0; i <= many; i++) {
                need(labelType(reader.labels[i]) == type);
                emitLabel(reader.labels[i]);
            }
            popResult(type);
            die();
        }

        private void emitLabel(int label) {
            if (!hasLabel(label)) {
                return;
            }
            Block target = blocks[depth - label];
            boolean back = target.op == OP_LOOP;
            if (back) {
                emit(target.start);
            } else {
                emitWaiting(target);
            }
            emit(localCount + target.height);
            emit(back || target.result == 0 ? 0 : 1);
        }

        /** A word that will be the place where the target ends. */
        private void emitWaiting(Block target) {
            emit(target.chain);
            target.chain = out - 1;
        }

        private void seeReturn() {
            int result = blocks[0].result;
            popResult(result);
            emit(OP_RETURN);
            emit(result == 0 ? 0 : 1);
            die();
        }

        private void seeCall() {
            need(reader.index < module.functionCount);
            emit(OP_CALL);
            emit(slot * MOST_FUNCTIONS + reader.index);
            passThrough(module.signature(reader.index));
        }

        private void seeCallIndirect() {
            need(module.tableCount > 0 && reader.index < module.typeCount);
            int signature = reader.index < module.typeCount ? module.types[reader.index] : 0;
            pop(I32);
            emit(OP_CALL_INDIRECT);
            emit(signature);
            passThrough(signature);
        }

        private void passThrough(int signature) {
            for (int i = Module.parameterCount(signature) - 1; i >= 0; i--) {
                pop(Module.parameter(signature, i));
            }
            pushResult(Module.result(signature));
        }

        private void seeChoice(int op) {
            emit(op);
            if (op == OP_DROP) {
                pop(ANY);
                return;
            }
            pop(I32);
            int type = pop(ANY);
            push(pop(type));
        }

        private void seeLocal(int op) {
            boolean has = reader.index < localCount && reader.index < MOST_LOCALS;
            need(has);
            int type = has ? locals[reader.index] : ANY;
            if (op != OP_LOCAL_GET) {
                pop(type);
            }
            if (op != OP_LOCAL_SET) {
                push(type);
            }
            emit(op);
            emit(reader.index);
        }

        private void seeGlobal(int op) {
            boolean has = reader.index < module.globalCount;
            need(has);
            int type = has ? module.globals[reader.index].type : ANY;
            if (op == OP_GLOBAL_GET) {
                push(type & ~MUTABLE);
            } else {
                need((type & MUTABLE) != 0);
                pop(type & ~MUTABLE);
            }
            emit(op);
            emit(slot * MOST_GLOBALS + reader.index);
        }

        private void seeAccess(int op) {
            int bytes = Numbers.accessBytes(op);
            need(module.memoryCount > 0 && reader.index < 4 && 1 << reader.index <= bytes);
            int type = Numbers.isNarrowAccess(op) ? I32 : I64;
            if (op >= OP_FIRST_STORE) {
                pop(type);
                pop(I32);
            } else {
                pop(I32);
                push(type);
            }
            emit(op);
            emit((int) reader.number);
        }

        private void seePages(int op) {
            need(module.memoryCount > 0);
            if (op == OP_MEMORY_GROW) {
                pop(I32);
            }
            push(I32);
            emit(op);
        }

        private void seeConstant(int op) {
            emit(op);
            emit((int) reader.number);
            if (op == OP_I64_CONST) {
                emit((int) (reader.number >> 32));
            }
            push(op == OP_I64_CONST ? I64 : I32);
        }

        private void seeNumeric(int op) {
            int type = Numbers.isWide(op) ? I64 : I32;
            if (!Numbers.isUnary(op)) {
                pop(type);
            }
            pop(type);
            push(Numbers.givesWide(op) ? I64 : I32);
            emit(op);
        }

        /** Behind a branch that is always taken the stack has whatever is asked of it. */
        private void die() {
            height = block.height;
            block.dead = true;
        }

        private int pop(int wanted) {
            if (height <= block.height || height > stack.length) {
                valid &= block.dead;
                return wanted;
            }
            height--;
            int found = stack[height];
            valid &= found == wanted || found == ANY || wanted == ANY;
            return found == ANY ? wanted : found;
        }

        private void popResult(int result) {
            if (result != 0) {
                pop(result);
            }
        }

        private void pushResult(int result) {
            if (result != 0) {
                push(result);
            }
        }

        private void push(int type) {
            if (height < stack.length) {
                stack[height] = type;
                height++;
            }
        }

        private void emit(int word) {
            if (out < code.length) {
                code[out] = word;
                out++;
            }
        }

        private void setWord(int place, int word) {
            if (place >= 0 && place < code.length) {
                code[place] = word;
            }
        }
    }

    /** THE MERGE: which number each MODULE's function and global has in all, HOST's functions first. */
    private static final class Link {
        private final Module[] modules;
        private int moduleCount;
        private final int[] functionOf = new int[MOST_MODULES * MOST_FUNCTIONS];
        private final int[] globalOf = new int[MOST_MODULES * MOST_GLOBALS];
        private final int[] signatures = new int[MOST_MODULES * MOST_FUNCTIONS];
        private final int[] entries = new int[MOST_MODULES * MOST_FUNCTIONS];
        private final int[] localCounts = new int[MOST_MODULES * MOST_FUNCTIONS];
        private final int[] types = new int[MOST_MODULES * MOST_TYPES];
        int typeCount;
        int hostCount;
        int functionCount;
        int globalCount;
        int exportCount;
        int tableSize;
        int leastPages;
        int mostPages;
        private int endModule;
        private int endIndex;

        Link(Module[] all) {
            modules = all;
        }

        /** The LINK FAULT, or 0. */
        int connect(int many) {
            moduleCount = many;
            functionCount = 0;
            globalCount = 0;
            exportCount = 0;
            typeCount = 0;
            for (int k = 0; k < moduleCount; k++) {
                numberHosts(k);
            }
            hostCount = functionCount;
            for (int k = 0; k < moduleCount; k++) {
                numberOwn(k);
                numberTypes(modules[k]);
                exportCount += modules[k].exportCount;
            }
            for (int k = 0; k < moduleCount; k++) {
                if (!connectImports(k)) {
                    return LINK_WRONG;
                }
            }
            return setSizes() ? 0 : LINK_TWICE;
        }

        private void numberHosts(int k) {
            Module module = modules[k];
            for (int i = 0; i < module.importCount; i++) {
                Port port = module.imports[i];
                if (port.sort == SORT_FUNCTION && exportFor(k, port) == NONE) {
                    numberFunction(k, port.index);
                }
            }
        }

        private void numberOwn(int k) {
            Module module = modules[k];
            for (int f = 0; f < module.functionCount; f++) {
                if (module.importOf(SORT_FUNCTION, f) == NONE) {
                    numberFunction(k, f);
                }
            }
            for (int g = 0; g < module.globalCount; g++) {
                if (module.importOf(SORT_GLOBAL, g) == NONE) {
                    globalOf[k * MOST_GLOBALS + g] = globalCount;
                    globalCount++;
                }
            }
        }

        private void numberFunction(int k, int f) {
            Module module = modules[k];
            functionOf[k * MOST_FUNCTIONS + f] = functionCount;
            signatures[functionCount] = module.signature(f);
            entries[functionCount] = module.functions[f].entry;
            localCounts[functionCount] = module.functions[f].locals;
            functionCount++;
        }

        private void numberTypes(Module module) {
            for (int i = 0; i < module.typeCount; i++) {
                if (!hasType(module.types[i])) {
                    types[typeCount] = module.types[i];
                    typeCount++;
                }
            }
        }

        private boolean hasType(int type) {
            for (int i = 0; i < typeCount; i++) {
                if (types[i] == type) {
                    return true;
                }
            }
            return false;
        }

        /** The number of the MODULE that an import of MODULE k names; NONE if it was not added. */
        private int moduleFor(int k, Port port) {
            boolean oneByte = port.moduleLength == 1 && port.moduleAt >= 0 && port.moduleAt < ROW_BYTES;
            int named = oneByte ? modules[k].bytes[port.moduleAt] - 'a' : NONE;
            return named >= 0 && named < moduleCount ? named : NONE;
        }

        private int exportFor(int k, Port port) {
            int named = moduleFor(k, port);
            return named == NONE ? NONE : modules[named].exportNamed(modules[k], port);
        }

        private boolean connectImports(int k) {
            Module module = modules[k];
            for (int i = 0; i < module.importCount; i++) {
                Port port = module.imports[i];
                if (!follow(k, i) || !fits(port, module)) {
                    return false;
                }
                if (port.sort == SORT_FUNCTION) {
                    functionOf[k * MOST_FUNCTIONS + port.index] = functionAt(endModule, endIndex);
                } else if (port.sort == SORT_GLOBAL) {
                    globalOf[k * MOST_GLOBALS + port.index] = globalAt(endModule, endIndex);
                }
            }
            return true;
        }

        /** Goes from import i of MODULE k to what it FITS at last, or to the HOST's; false if there is none. */
        private boolean follow(int k, int i) {
            int at = k;
            int place = i;
            // each import is met once unless they are a ring
            for (int turn = 0; turn <= MOST_MODULES * MOST_IMPORTS; turn++) {
                Port port = modules[at].imports[place];
                int named = exportFor(at, port);
                if (named == NONE) {
                    endModule = at;
                    endIndex = port.index;
                    return port.sort == SORT_FUNCTION;
                }
                at = moduleFor(at, port);
                Port export = modules[at].exports[named];
                if (export.sort != port.sort) {
                    return false;
                }
                place = modules[at].importOf(export.sort, export.index);
                if (place == NONE) {
                    endModule = at;
                    endIndex = export.index;
                    return true;
                }
            }
            return false;
        }

        private boolean fits(Port port, Module importer) {
            Module owner = modules[endModule];
            switch (port.sort) {
                case SORT_FUNCTION: return importer.signature(port.index) == owner.signature(endIndex);
                case SORT_GLOBAL: return port.type == owner.globals[endIndex].type;
                case SORT_TABLE: return limitsFit(port, owner.table);
                default: return limitsFit(port, owner.memory);
            }
        }

        private static boolean limitsFit(Port wanted, Port given) {
            boolean bounded = wanted.most == NONE || given.most != NONE && given.most <= wanted.most;
            return wanted.least <= given.least && bounded;
        }

        /** False if there are two tables or two memories that are no imports. */
        private boolean setSizes() {
            tableSize = NONE;
            leastPages = NONE;
            mostPages = NONE;
            boolean twice = false;
            for (int k = 0; k < moduleCount; k++) {
                Module module = modules[k];
                if (module.owns(SORT_TABLE)) {
                    twice |= tableSize != NONE;
                    tableSize = (int) module.table.least;
                }
                if (module.owns(SORT_MEMORY)) {
                    twice |= leastPages != NONE;
                    leastPages = (int) module.memory.least;
                    mostPages = module.memory.most == NONE ? MOST_PAGES
                        : (int) Math.min(MOST_PAGES, module.memory.most);
                }
            }
            return !twice;
        }

        int functionAt(int k, int f) {
            return functionInSlot(k * MOST_FUNCTIONS + f);
        }

        int functionInSlot(int slot) {
            return slot >= 0 && slot < functionOf.length ? functionOf[slot] : 0;
        }

        int globalAt(int k, int g) {
            return globalInSlot(k * MOST_GLOBALS + g);
        }

        int globalInSlot(int slot) {
            return slot >= 0 && slot < globalOf.length ? globalOf[slot] : 0;
        }

        int signatureOf(int function) {
            return function >= 0 && function < functionCount ? signatures[function] : 0;
        }

        int entryOf(int function) {
            return function >= 0 && function < functionCount ? entries[function] : 0;
        }

        int localCountOf(int function) {
            return function >= 0 && function < functionCount ? localCounts[function] : 0;
        }
    }

    /** THE RUN. A value of i32 stands on the stack as the long of the same signed number. */
    private static final class Machine {
        private static final int MOST_CALLS = 100;
        private static final int MOST_STEPS = 20000;
        private static final int MOST_OUTPUT = 2000;
        // else and end do not count as steps, but stand behind an if or a call that does
        private static final int MOST_TURNS = 4 * MOST_STEPS;
        // a step puts one value on the stack, and a call no more than its locals beside
        private static final int STACK = MOST_STEPS + (MOST_CALLS + 1) * MOST_LOCALS;

        private final int[] code;
        private final Link link;
        private final Reader reader = new Reader();
        private final long[] stack = new long[STACK];
        private int top;
        private int base;
        private int pc;
        private int depth;
        private final int[] returns = new int[MOST_CALLS];
        private final int[] bases = new int[MOST_CALLS];
        private int steps;
        int trap;
        private final byte[] bytes = new byte[MOST_PAGES * PAGE];
        int pages = NONE;
        private final int[] table = new int[MOST_TABLE];
        private final long[] globals = new long[MOST_MODULES * MOST_GLOBALS];
        private final long[] output = new long[MOST_OUTPUT];
        private int outputAt;
        int outputCount;

        Machine(int[] shared, Link merge) {
            code = shared;
            link = merge;
        }

        /** THE RUN begins; trap tells how that went. */
        void boot() {
            reset();
            for (int k = 0; k < link.moduleCount; k++) {
                setGlobals(k);
            }
            for (int k = 0; k < link.moduleCount; k++) {
                writeElements(k);
            }
            for (int k = 0; k < link.moduleCount; k++) {
                writeData(k);
            }
            for (int k = 0; k < link.moduleCount && trap == 0; k++) {
                int start = link.modules[k].start;
                if (start != NONE) {
                    invoke(link.functionAt(k, start));
                }
            }
        }

        private void reset() {
            Arrays.fill(bytes, 0, Math.max(pages, 0) * PAGE, (byte) 0);
            pages = link.leastPages;
            Arrays.fill(table, NONE);
            Arrays.fill(globals, 0);
            outputAt = 0;
            outputCount = 0;
            steps = 0;
            top = 0;
            trap = 0;
        }

        private void setGlobals(int k) {
            Module module = link.modules[k];
            for (int g = 0; g < module.globalCount; g++) {
                if (module.importOf(SORT_GLOBAL, g) == NONE) {
                    setGlobalValue(link.globalAt(k, g), initialValue(k, module.globals[g]));
                }
            }
        }

        private long initialValue(int k, Part part) {
            return part.op == OP_GLOBAL_GET ? globalValue(link.globalAt(k, (int) part.value)) : part.value;
        }

        private void writeElements(int k) {
            Module module = link.modules[k];
            for (int i = 0; i < module.elementCount && trap == 0; i++) {
                Part part = module.elements[i];
                long at = initialValue(k, part) & LOW_32;
                if (at + part.size > Math.min(link.tableSize, MOST_TABLE)) {
                    trap = TRAP_SEGMENT;
                    return;
                }
                reader.open(module.bytes, part.at, ROW_BYTES);
                for (int n = 0; n < part.size; n++) {
                    table[(int) at + n] = link.functionAt(k, reader.cappedU32());
                }
            }
        }

        private void writeData(int k) {
            Module module = link.modules[k];
            for (int i = 0; i < module.dataCount && trap == 0; i++) {
                Part part = module.data[i];
                long at = initialValue(k, part) & LOW_32;
                if (at + part.size > sizeInBytes()) {
                    trap = TRAP_SEGMENT;
                    return;
                }
                System.arraycopy(module.bytes, part.at, bytes, (int) at, part.size);
            }
        }

        /** What a call from outside gives, if it does not trap. */
        long answer(int function, long[] arguments) {
            int signature = link.signatureOf(function);
            int many = Math.min(Module.parameterCount(signature), arguments.length);
            steps = 0;
            top = 0;
            trap = 0;
            for (int i = 0; i < many; i++) {
                push(Module.parameter(signature, i) == I32 ? (int) arguments[i] : arguments[i]);
            }
            invoke(function);
            return trap == 0 && Module.result(signature) != 0 ? pop() : 0;
        }

        private void invoke(int function) {
            depth = 0;
            enter(function);
            for (int turn = 0; turn < MOST_TURNS && depth > 0 && trap == 0; turn++) {
                int op = nextWord();
                if (op == OP_END) {
                    leave(nextWord());
                } else if (op == OP_ELSE) {
                    pc = nextWord();
                } else if (steps >= MOST_STEPS) {
                    trap = TRAP_STEPS;
                } else if (op <= OP_CALL_INDIRECT) {
                    steps++;
                    doControl(op);
                } else {
                    steps++;
                    doPlain(op);
                }
            }
        }

        private void doPlain(int op) {
            if (op <= OP_SELECT) {
                doChoice(op);
            } else if (op <= OP_GLOBAL_SET) {
                doVariable(op);
            } else if (op <= OP_LAST_STORE) {
                doAccess(op);
            } else if (op <= OP_MEMORY_GROW) {
                doPages(op);
            } else if (op <= OP_I64_CONST) {
                doConstant(op);
            } else {
                doNumeric(op);
            }
        }

        private void doControl(int op) {
            switch (op) {
                case OP_UNREACHABLE:
                    trap = TRAP_UNREACHABLE;
                    break;
                case OP_IF:
                    int otherwise = nextWord();
                    pc = pop() == 0 ? otherwise : pc;
                    break;
                case OP_BR:
                    branch();
                    break;
                case OP_BR_IF:
                    branchIf();
                    break;
                case OP_BR_TABLE:
                    int last = nextWord();
                    pc += 3 * (int) Math.min(pop() & LOW_32, last);
                    branch();
                    break;
                case OP_RETURN:
                    leave(nextWord());
                    break;
                case OP_CALL:
                    enter(link.functionInSlot(nextWord()));
                    break;
                case OP_CALL_INDIRECT:
                    enterIndirect(nextWord());
                    break;
                default:
                    // nop, block and loop do nothing themselves
                    break;
            }
        }

        private void branch() {
            int target = nextWord();
            int height = nextWord();
            int arity = nextWord();
            unwind(base + height, arity);
            pc = target;
        }

        private void branchIf() {
            if (pop() != 0) {
                branch();
            } else {
                pc += 3;
            }
        }

        private void unwind(int height, int arity) {
            long result = arity == 0 ? 0 : pop();
            top = height;
            if (arity != 0) {
                push(result);
            }
        }

        private void enter(int function) {
            if (depth >= MOST_CALLS) {
                trap = TRAP_DEPTH;
                return;
            }
            int parameters = Module.parameterCount(link.signatureOf(function));
            if (function < link.hostCount) {
                enterHost(function, parameters);
                return;
            }
            returns[depth] = pc;
            bases[depth] = base;
            depth++;
            base = top - parameters;
            pc = link.entryOf(function);
            for (int i = parameters; i < link.localCountOf(function); i++) {
                push(0);
            }
        }

        private void enterHost(int function, int parameters) {
            write(function);
            for (int i = parameters; i > 0; i--) {
                write(slotValue(top - i));
            }
            top -= parameters;
            if (Module.result(link.signatureOf(function)) != 0) {
                push(0);
            }
        }

        private void enterIndirect(int signature) {
            long at = pop() & LOW_32;
            int function = at < MOST_TABLE ? table[(int) at] : NONE;
            if (function == NONE || link.signatureOf(function) != signature) {
                trap = TRAP_TABLE;
                return;
            }
            enter(function);
        }

        private void leave(int arity) {
            if (depth <= 0) {
                return;
            }
            unwind(base, arity);
            depth--;
            pc = returns[depth];
            base = bases[depth];
        }

        private void doChoice(int op) {
            long last = pop();
            if (op == OP_SELECT) {
                long second = pop();
                long first = pop();
                push(last != 0 ? first : second);
            }
        }

        private void doVariable(int op) {
            int index = nextWord();
            switch (op) {
                case OP_LOCAL_GET: push(slotValue(base + index)); break;
                case OP_LOCAL_SET: setSlotValue(base + index, pop()); break;
                case OP_LOCAL_TEE: setSlotValue(base + index, slotValue(top - 1)); break;
                case OP_GLOBAL_GET: push(globalValue(link.globalInSlot(index))); break;
                default: setGlobalValue(link.globalInSlot(index), pop()); break;
            }
        }

        private void doAccess(int op) {
            long offset = nextWord() & LOW_32;
            boolean stores = op >= OP_FIRST_STORE;
            long value = stores ? pop() : 0;
            long at = (pop() & LOW_32) + offset;
            int many = Numbers.accessBytes(op);
            if (at + many > sizeInBytes()) {
                trap = TRAP_MEMORY;
            } else if (stores) {
                store((int) at, many, value);
            } else {
                push(load((int) at, many, Numbers.isSignedLoad(op)));
            }
        }

        private void store(int at, int many, long value) {
            for (int i = 0; i < many; i++) {
                bytes[at + i] = (byte) (value >> 8 * i);
            }
        }

        private long load(int at, int many, boolean signed) {
            long value = 0;
            for (int i = many - 1; i >= 0; i--) {
                value = value << 8 | bytes[at + i] & 255;
            }
            int unused = signed ? 64 - 8 * many : 0;
            return value << unused >> unused;
        }

        private void doPages(int op) {
            long more = op == OP_MEMORY_GROW ? pop() & LOW_32 : 0;
            if (more > link.mostPages - pages) {
                push(-1);
                return;
            }
            push(pages);
            pages += (int) more;
        }

        private void doConstant(int op) {
            long low = nextWord();
            push(op == OP_I32_CONST ? low : low & LOW_32 | (long) nextWord() << 32);
        }

        private void doNumeric(int op) {
            long second = Numbers.isUnary(op) ? 0 : pop();
            long first = pop();
            if (Numbers.cannotDivide(op, first, second)) {
                trap = TRAP_DIVISION;
                return;
            }
            push(Numbers.evaluate(op, first, second));
        }

        private int nextWord() {
            int word = pc >= 0 && pc < code.length ? code[pc] : 0;
            pc++;
            return word;
        }

        private long pop() {
            if (top <= 0 || top > STACK) {
                return 0;
            }
            top--;
            return stack[top];
        }

        private void push(long value) {
            if (top >= 0 && top < STACK) {
                stack[top] = value;
                top++;
            }
        }

        private long slotValue(int at) {
            return at >= 0 && at < STACK ? stack[at] : 0;
        }

        private void setSlotValue(int at, long value) {
            if (at >= 0 && at < STACK) {
                stack[at] = value;
            }
        }

        long globalValue(int at) {
            return at >= 0 && at < globals.length ? globals[at] : 0;
        }

        private void setGlobalValue(int at, long value) {
            if (at >= 0 && at < globals.length) {
                globals[at] = value;
            }
        }

        private int sizeInBytes() {
            return Math.max(pages, 0) * PAGE;
        }

        /** Byte at of the memory; NONE if it is not there. */
        int byteAt(int at) {
            return at >= 0 && at < sizeInBytes() ? bytes[at] & 255 : NONE;
        }

        private void write(long value) {
            if (outputCount < MOST_OUTPUT) {
                output[(outputAt + outputCount) % MOST_OUTPUT] = value;
                outputCount++;
            }
        }

        long takeOutput() {
            if (outputCount == 0) {
                return 0;
            }
            long value = output[outputAt];
            outputAt = (outputAt + 1) % MOST_OUTPUT;
            outputCount--;
            return value;
        }
    }

    /** What the numeric INSTRUCTIONS, loads and stores are by their numbers, and the arithmetic. */
    private static final class Numbers {
        private static final int I64_EQZ = 0x50;
        private static final int FIRST_COMPARISON = 0x45;
        private static final int LAST_COMPARISON = 0x5a;
        private static final int FIRST_I32 = 0x67;
        private static final int FIRST_I64 = 0x79;
        private static final int LAST_I64 = 0x8a;
        private static final int I32_DIV_S = 0x6d;
        private static final int I32_REM_U = 0x70;
        private static final int I64_DIV_S = 0x7f;
        private static final int I64_REM_U = 0x82;
        private static final int WRAP = 0xa7;
        private static final int EXTEND_S = 0xac;
        private static final int EXTEND_U = 0xad;

        // how many bytes each load and store moves, from OP_FIRST_LOAD on; 0 for those of floats
        private static final int[] ACCESS_BYTES =
            {4, 8, 0, 0, 1, 1, 2, 2, 1, 1, 2, 2, 4, 4, 4, 8, 0, 0, 1, 2, 1, 2, 4};

        static int accessBytes(int op) {
            int at = op - OP_FIRST_LOAD;
            return at >= 0 && at < ACCESS_BYTES.length ? ACCESS_BYTES[at] : 0;
        }

        static boolean isNarrowAccess(int op) {
            return op == 0x28 || op >= 0x2c && op <= 0x2f || op == 0x36 || op == 0x3a || op == 0x3b;
        }

        /** i32.load is one, too, as an i32 stands in a long with its sign; of i64.load nothing is unused. */
        static boolean isSignedLoad(int op) {
            return (op & 1) == 0;
        }

        static boolean isNumeric(int op) {
            return op >= FIRST_COMPARISON && op <= LAST_COMPARISON || op >= FIRST_I32 && op <= LAST_I64
                || op == WRAP || op == EXTEND_S || op == EXTEND_U;
        }

        /** Whether it takes i64. */
        static boolean isWide(int op) {
            return op >= I64_EQZ && op <= LAST_COMPARISON || op >= FIRST_I64 && op <= LAST_I64 || op == WRAP;
        }

        static boolean givesWide(int op) {
            return op >= FIRST_I64 && op <= LAST_I64 || op == EXTEND_S || op == EXTEND_U;
        }

        static boolean isUnary(int op) {
            return op == FIRST_COMPARISON || op == I64_EQZ || op >= FIRST_I32 && op < FIRST_I32 + 3
                || op >= FIRST_I64 && op < FIRST_I64 + 3 || op >= WRAP;
        }

        static boolean cannotDivide(int op, long a, long b) {
            boolean divides = op >= I32_DIV_S && op <= I32_REM_U || op >= I64_DIV_S && op <= I64_REM_U;
            boolean tooLarge = b == -1
                && (op == I32_DIV_S && a == Integer.MIN_VALUE || op == I64_DIV_S && a == Long.MIN_VALUE);
            return divides && b == 0 || tooLarge;
        }

        static long evaluate(int op, long a, long b) {
            if (op <= LAST_COMPARISON) {
                int which = op < I64_EQZ ? op - FIRST_COMPARISON : op - I64_EQZ;
                return compare(which, a, b) ? 1 : 0;
            }
            if (op < FIRST_I64) {
                return narrow(op - FIRST_I32, (int) a, (int) b);
            }
            if (op <= LAST_I64) {
                return wide(op - FIRST_I64, a, b);
            }
            if (op == WRAP) {
                return (int) a;
            }
            return op == EXTEND_U ? a & LOW_32 : a;
        }

        /** Signs keep the order of unsigned i32 in longs, so both types are compared alike. */
        private static boolean compare(int which, long a, long b) {
            switch (which) {
                case 0: return a == 0;
                case 1: return a == b;
                case 2: return a != b;
                case 3: return a < b;
                case 4: return isBelow(a, b);
                case 5: return a > b;
                case 6: return isBelow(b, a);
                case 7: return a <= b;
                case 8: return !isBelow(b, a);
                case 9: return a >= b;
                default: return !isBelow(a, b);
            }
        }

        /** Of numbers without signs: what is added moves them to the same order with signs. */
        private static boolean isBelow(long a, long b) {
            return a + Long.MIN_VALUE < b + Long.MIN_VALUE;
        }

        /**
         * Of numbers without signs, while Java's / knows signs: half of a has none, and twice its quotient is the
         * right one or one too low; as is 0 where b has its highest bit set.
         */
        private static long quotient(long a, long b) {
            if (b == 0) {
                return 0;
            }
            long low = b < 0 ? 0 : (a >>> 1) / b << 1;
            long rest = a - low * b;
            // isBelow, written out here: it would be the ninth call in each other
            return rest + Long.MIN_VALUE < b + Long.MIN_VALUE ? low : low + 1;
        }

        private static int narrow(int which, int a, int b) {
            switch (which) {
                case 0: return Integer.numberOfLeadingZeros(a);
                case 1: return Integer.numberOfTrailingZeros(a);
                case 2: return Integer.bitCount(a);
                case 3: return a + b;
                case 4: return a - b;
                case 5: return a * b;
                case 6: return b == 0 ? 0 : a / b;
                case 7: return (int) quotient(a & LOW_32, b & LOW_32);
                case 8: return b == 0 ? 0 : a % b;
                case 9: return a - (int) quotient(a & LOW_32, b & LOW_32) * b;
                case 10: return a & b;
                case 11: return a | b;
                case 12: return a ^ b;
                case 13: return a << (b & 31);
                case 14: return a >> (b & 31);
                case 15: return a >>> (b & 31);
                case 16: return Integer.rotateLeft(a, b & 31);
                default: return Integer.rotateRight(a, b & 31);
            }
        }

        private static long wide(int which, long a, long b) {
            int shift = (int) (b & 63);
            switch (which) {
                case 0: return Long.numberOfLeadingZeros(a);
                case 1: return Long.numberOfTrailingZeros(a);
                case 2: return Long.bitCount(a);
                case 3: return a + b;
                case 4: return a - b;
                case 5: return a * b;
                case 6: return b == 0 ? 0 : a / b;
                case 7: return quotient(a, b);
                case 8: return b == 0 ? 0 : a % b;
                case 9: return a - quotient(a, b) * b;
                case 10: return a & b;
                case 11: return a | b;
                case 12: return a ^ b;
                case 13: return a << shift;
                case 14: return a >> shift;
                case 15: return a >>> shift;
                case 16: return Long.rotateLeft(a, shift);
                default: return Long.rotateRight(a, shift);
            }
        }
    }
}
