import java.io.ByteArrayOutputStream;

/** Writes MODULES in the binary format, and gives them to an object by feed, end and add. */
final class Binary {
    static final int I32 = 0x7f;
    static final int I64 = 0x7e;
    static final int NO = 0x40;
    static final byte[] HEADER = bytes(0, 'a', 's', 'm', 1, 0, 0, 0);
    static final byte[] NOTHING = new byte[0];

    private Binary() {
    }

    static byte[] bytes(int... values) {
        byte[] row = new byte[values.length];
        for (int i = 0; i < values.length; i++) {
            row[i] = (byte) values[i];
        }
        return row;
    }

    static byte[] join(byte[]... parts) {
        ByteArrayOutputStream all = new ByteArrayOutputStream();
        for (byte[] part : parts) {
            all.writeBytes(part);
        }
        return all.toByteArray();
    }

    static byte[] u32(long value) {
        ByteArrayOutputStream all = new ByteArrayOutputStream();
        long rest = value;
        while (rest > 127) {
            all.write((int) (rest & 127 | 128));
            rest >>>= 7;
        }
        all.write((int) rest);
        return all.toByteArray();
    }

    static byte[] signed(long value) {
        ByteArrayOutputStream all = new ByteArrayOutputStream();
        long rest = value;
        while (rest < -64 || rest > 63) {
            all.write((int) (rest & 127 | 128));
            rest >>= 7;
        }
        all.write((int) (rest & 127));
        return all.toByteArray();
    }

    static byte[] vector(byte[]... parts) {
        return join(u32(parts.length), join(parts));
    }

    static byte[] sized(byte[] content) {
        return join(u32(content.length), content);
    }

    static byte[] repeat(int many, byte[] part) {
        byte[][] parts = new byte[many][];
        for (int i = 0; i < many; i++) {
            parts[i] = part;
        }
        return join(parts);
    }

    static byte[][] times(int many, byte[] part) {
        byte[][] parts = new byte[many][];
        for (int i = 0; i < many; i++) {
            parts[i] = part;
        }
        return parts;
    }

    static byte[] name(String text) {
        byte[] row = new byte[text.length()];
        for (int i = 0; i < row.length; i++) {
            row[i] = (byte) text.charAt(i);
        }
        return sized(row);
    }

    static byte[] module(byte[]... sections) {
        return join(HEADER, join(sections));
    }

    static byte[] section(int id, byte[] content) {
        return join(bytes(id), sized(content));
    }

    static byte[] section(int id, byte[]... entries) {
        return section(id, vector(entries));
    }

    static byte[] types(byte[]... entries) {
        return section(1, entries);
    }

    /** The result is NO if there is none. */
    static byte[] type(int result, int... parameters) {
        byte[] results = result == NO ? bytes(0) : bytes(1, result);
        return join(bytes(0x60), u32(parameters.length), bytes(parameters), results);
    }

    static byte[] imports(byte[]... entries) {
        return section(2, entries);
    }

    static byte[] imported(String module, String name, int sort, byte[] what) {
        return join(name(module), name(name), bytes(sort), what);
    }

    static byte[] functions(int... types) {
        byte[][] entries = new byte[types.length][];
        for (int i = 0; i < types.length; i++) {
            entries[i] = u32(types[i]);
        }
        return section(3, entries);
    }

    static byte[] limits(long least) {
        return join(bytes(0), u32(least));
    }

    static byte[] limits(long least, long most) {
        return join(bytes(1), u32(least), u32(most));
    }

    static byte[] table(byte[] limits) {
        return join(bytes(0x70), limits);
    }

    static byte[] tables(byte[]... limits) {
        byte[][] entries = new byte[limits.length][];
        for (int i = 0; i < limits.length; i++) {
            entries[i] = table(limits[i]);
        }
        return section(4, entries);
    }

    /** One table without a second limit, whose first one is written so. */
    static byte[] tablesOf(byte[] least) {
        return section(4, join(bytes(1, 0x70, 0), least));
    }

    static byte[] memories(byte[]... limits) {
        return section(5, limits);
    }

    static byte[] globals(byte[]... entries) {
        return section(6, entries);
    }

    static byte[] global(int type, int mutable, byte[] initial) {
        return join(bytes(type, mutable), initial, bytes(0x0b));
    }

    static byte[] exports(byte[]... entries) {
        return section(7, entries);
    }

    static byte[] export(String name, int sort, int index) {
        return join(name(name), bytes(sort), u32(index));
    }

    static byte[] start(int function) {
        return section(8, u32(function));
    }

    static byte[] elements(byte[]... entries) {
        return section(9, entries);
    }

    static byte[] element(byte[] initial, int... functions) {
        byte[][] indices = new byte[functions.length][];
        for (int i = 0; i < functions.length; i++) {
            indices[i] = u32(functions[i]);
        }
        return join(bytes(0), initial, bytes(0x0b), vector(indices));
    }

    static byte[] codes(byte[]... bodies) {
        return section(10, bodies);
    }

    /** A function without locals; its last end is written here. */
    static byte[] body(byte[]... instructions) {
        return sized(join(bytes(0), join(instructions), bytes(0x0b)));
    }

    static byte[] bodyWith(byte[] locals, byte[] instructions) {
        return sized(join(locals, instructions, bytes(0x0b)));
    }

    static byte[] locals(int many, int type) {
        return join(bytes(1), u32(many), bytes(type));
    }

    static byte[] data(byte[]... entries) {
        return section(11, entries);
    }

    static byte[] datum(byte[] initial, int... content) {
        return join(bytes(0), initial, bytes(0x0b), sized(bytes(content)));
    }

    static byte[] i32(int value) {
        return join(bytes(0x41), signed(value));
    }

    static byte[] i64(long value) {
        return join(bytes(0x42), signed(value));
    }

    static byte[] op(int op) {
        return bytes(op);
    }

    static byte[] op(int op, long index) {
        return join(bytes(op), u32(index));
    }

    static byte[] get(int local) {
        return op(0x20, local);
    }

    static byte[] set(int local) {
        return op(0x21, local);
    }

    static byte[] access(int op, int align, long offset) {
        return join(bytes(op), u32(align), u32(offset));
    }

    static byte[] call(int function) {
        return op(0x10, function);
    }

    static byte[] indirect(int type) {
        return join(bytes(0x11), u32(type), bytes(0));
    }

    static byte[] labels(int last, int... others) {
        byte[][] entries = new byte[others.length][];
        for (int i = 0; i < others.length; i++) {
            entries[i] = u32(others[i]);
        }
        return join(bytes(0x0e), vector(entries), u32(last));
    }

    /** THE ROW becomes these bytes. */
    static void feed(WasmMerge object, byte[] module) {
        object.end(0);
        for (int at = 0; at < module.length; at += 20) {
            object.feed(word(module, at), word(module, at + 4), word(module, at + 8), word(module, at + 12),
                word(module, at + 16));
        }
        object.end(module.length);
    }

    private static int word(byte[] module, int at) {
        int word = 0;
        for (int i = at; i < at + 4; i++) {
            word = word << 8 | (i < module.length ? module[i] & 255 : 0);
        }
        return word;
    }

    /** The FAULT of this MODULE in a new object, 0 if it has none. */
    static int faultOf(byte[] module) {
        WasmMerge object = new WasmMerge();
        feed(object, module);
        try {
            object.add();
        } catch (UnsupportedOperationException e) {
            return object.fault();
        }
        return object.fault();
    }

    /** A new object with these MODULES. */
    static WasmMerge with(byte[]... modules) {
        WasmMerge object = new WasmMerge();
        for (byte[] module : modules) {
            feed(object, module);
            object.add();
        }
        return object;
    }

    static WasmMerge merged(byte[]... modules) {
        WasmMerge object = with(modules);
        object.merge();
        return object;
    }

    static WasmMerge running(byte[]... modules) {
        WasmMerge object = merged(modules);
        object.begin();
        return object;
    }

    /** The LINK FAULT of these MODULES, 0 if there is none. */
    static int linkFaultOf(byte[]... modules) {
        WasmMerge object = with(modules);
        try {
            object.merge();
        } catch (UnsupportedOperationException e) {
            return object.fault();
        }
        return object.fault();
    }

    /** The TRAP of begin(), 0 if there is none. */
    static int beginTrap(WasmMerge object) {
        try {
            object.begin();
        } catch (ArithmeticException e) {
            return object.trap();
        }
        return object.trap();
    }

    /** The TRAP of this call, 0 if there is none. */
    static int callTrap(WasmMerge object, int k, int j, long... arguments) {
        try {
            callWith(object, k, j, arguments);
        } catch (ArithmeticException e) {
            return object.trap();
        }
        return object.trap();
    }

    static long callWith(WasmMerge object, int k, int j, long... arguments) {
        for (long argument : arguments) {
            object.argument(argument);
        }
        return object.call(k, j);
    }
}
