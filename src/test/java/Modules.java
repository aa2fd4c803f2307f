/** MODULES that several tests have use for; each is as small as it can be. */
final class Modules {
    static final byte[] EMPTY = Binary.module();
    static final byte[] MALFORMED = Binary.bytes(0, 'a', 's', 'm', 2, 0, 0, 0);
    static final byte[] NOT_VALID = Binary.module(Binary.start(0));
    static final byte[] TOO_MUCH = Binary.module(Binary.memories(Binary.limits(3)));

    private Modules() {
    }

    /** Export 0 is a function of this type, with no more locals than it has parameters. */
    static byte[] function(byte[] type, byte[]... instructions) {
        return Binary.module(Binary.types(type), Binary.functions(0), Binary.exports(Binary.export("f", 0, 0)),
            Binary.codes(Binary.body(instructions)));
    }

    /** The same with a memory, which is export 1. */
    static byte[] functionWithMemory(byte[] limits, byte[] type, byte[]... instructions) {
        return Binary.module(Binary.types(type), Binary.functions(0), Binary.memories(limits),
            Binary.exports(Binary.export("f", 0, 0), Binary.export("m", 2, 0)),
            Binary.codes(Binary.body(instructions)));
    }

    /** Export 0 is a global. */
    static byte[] global(int type, int mutable, byte[] initial) {
        return Binary.module(Binary.globals(Binary.global(type, mutable, initial)),
            Binary.exports(Binary.export("g", 3, 0)));
    }

    static byte[] table(byte[] limits) {
        return Binary.module(Binary.tables(limits), Binary.exports(Binary.export("t", 1, 0)));
    }

    static byte[] memory(byte[] limits) {
        return Binary.module(Binary.memories(limits), Binary.exports(Binary.export("m", 2, 0)));
    }

    /** One import, of types the one that is given; it is export 0 as well, by the name to. */
    static byte[] passing(byte[] type, String module, String name, String to, int sort, byte[] what) {
        return Binary.module(Binary.types(type), Binary.imports(Binary.imported(module, name, sort, what)),
            Binary.exports(Binary.export(to, sort, 0)));
    }

    /** The same for what needs no type, or for a function without parameters and results. */
    static byte[] passing(String module, String name, String to, int sort, byte[] what) {
        return passing(Binary.type(Binary.NO), module, name, to, sort, what);
    }

    /** The NAME of MODULE k. */
    static String nameOf(int k) {
        return String.valueOf((char) ('a' + k));
    }

    static String text(int length) {
        StringBuilder text = new StringBuilder();
        for (int i = 0; i < length; i++) {
            text.append((char) ('A' + i % 26));
        }
        return text.toString();
    }

    /** So many exports of one thing, by names of their own. */
    static byte[][] exportsOf(int many, int sort, int index) {
        byte[][] exports = new byte[many][];
        for (int i = 0; i < many; i++) {
            exports[i] = Binary.export("e" + i, sort, index);
        }
        return exports;
    }
}
