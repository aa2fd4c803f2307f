import java.util.ArrayList;
import java.util.List;

/** A MODULE as the one who writes it sees it: lists of what it has. */
final class Plan {
    static final long WITHOUT = -1;

    /** A type of functions. */
    record Kind(int result, List<Integer> parameters) {
        byte[] bytes() {
            int[] all = new int[parameters.size()];
            for (int i = 0; i < all.length; i++) {
                all[i] = parameters.get(i);
            }
            return Binary.type(result, all);
        }
    }

    record Limits(long least, long most) {
        byte[] bytes() {
            return most == WITHOUT ? Binary.limits(least) : Binary.limits(least, most);
        }
    }

    /** An import: type is the number of a function's type, or the value type of a global. */
    record Bring(String module, String name, int sort, int type, boolean mutable, Limits limits) {
        byte[] bytes() {
            byte[] what;
            switch (sort) {
                case 0: what = Binary.u32(type); break;
                case 1: what = Binary.table(limits.bytes()); break;
                case 2: what = limits.bytes(); break;
                default: what = Binary.bytes(type, mutable ? 1 : 0); break;
            }
            return Binary.imported(module, name, sort, what);
        }
    }

    record Own(int type, List<Integer> locals, List<Code> body) {
        byte[] bytes() {
            byte[][] groups = new byte[locals.size()][];
            for (int i = 0; i < groups.length; i++) {
                groups[i] = Binary.bytes(1, locals.get(i));
            }
            return Binary.bodyWith(Binary.vector(groups), Code.all(body));
        }
    }

    record Value(int type, boolean mutable, Code initial) {
        byte[] bytes() {
            return Binary.global(type, mutable ? 1 : 0, initial.bytes());
        }
    }

    record Give(String name, int sort, int index) {
        byte[] bytes() {
            return Binary.export(name, sort, index);
        }
    }

    /** An element's functions, or the bytes of data. */
    record Piece(Code initial, int[] content) {
    }

    final List<Kind> types = new ArrayList<>();
    final List<Bring> imports = new ArrayList<>();
    final List<Own> functions = new ArrayList<>();
    final List<Value> globals = new ArrayList<>();
    final List<Give> exports = new ArrayList<>();
    final List<Piece> elements = new ArrayList<>();
    final List<Piece> data = new ArrayList<>();
    Limits table;
    Limits memory;
    int start = -1;

    /** The imports of this sort, in order. */
    List<Bring> brought(int sort) {
        List<Bring> some = new ArrayList<>();
        for (Bring bring : imports) {
            if (bring.sort() == sort) {
                some.add(bring);
            }
        }
        return some;
    }

    /** How many of this sort there are, imports too. */
    int many(int sort) {
        int own;
        switch (sort) {
            case 0: own = functions.size(); break;
            case 1: own = table == null ? 0 : 1; break;
            case 2: own = memory == null ? 0 : 1; break;
            default: own = globals.size(); break;
        }
        return brought(sort).size() + own;
    }

    Kind kindOf(int function) {
        List<Bring> before = brought(0);
        return types.get(function < before.size() ? before.get(function).type()
            : functions.get(function - before.size()).type());
    }

    int typeOfGlobal(int global) {
        List<Bring> before = brought(3);
        return global < before.size() ? before.get(global).type() : globals.get(global - before.size()).type();
    }

    boolean mutableGlobal(int global) {
        List<Bring> before = brought(3);
        return global < before.size() ? before.get(global).mutable() : globals.get(global - before.size()).mutable();
    }

    int typeNumber(Kind kind) {
        int at = types.indexOf(kind);
        if (at < 0) {
            types.add(kind);
            at = types.size() - 1;
        }
        return at;
    }

    Give exported(String name) {
        for (Give give : exports) {
            if (give.name().equals(name)) {
                return give;
            }
        }
        return null;
    }

    byte[] bytes() {
        List<byte[]> sections = new ArrayList<>();
        add(sections, 1, types.stream().map(Kind::bytes).toArray(byte[][]::new));
        add(sections, 2, imports.stream().map(Bring::bytes).toArray(byte[][]::new));
        add(sections, 3, functions.stream().map(own -> Binary.u32(own.type())).toArray(byte[][]::new));
        if (table != null) {
            sections.add(Binary.tables(table.bytes()));
        }
        if (memory != null) {
            sections.add(Binary.memories(memory.bytes()));
        }
        add(sections, 6, globals.stream().map(Value::bytes).toArray(byte[][]::new));
        add(sections, 7, exports.stream().map(Give::bytes).toArray(byte[][]::new));
        if (start >= 0) {
            sections.add(Binary.start(start));
        }
        add(sections, 9, elements.stream().map(one -> Binary.element(one.initial().bytes(), one.content()))
            .toArray(byte[][]::new));
        add(sections, 10, functions.stream().map(Own::bytes).toArray(byte[][]::new));
        add(sections, 11, data.stream().map(one -> Binary.datum(one.initial().bytes(), one.content()))
            .toArray(byte[][]::new));
        return Binary.module(sections.toArray(byte[][]::new));
    }

    private static void add(List<byte[]> sections, int id, byte[][] entries) {
        if (entries.length > 0) {
            sections.add(Binary.section(id, entries));
        }
    }
}
