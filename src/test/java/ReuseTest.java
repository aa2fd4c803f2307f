import java.util.ArrayList;
import java.util.List;

/**
 * Promises 4 to 7: behind clear() an object answers as a new one does, whatever was added, merged and
 * run in it before.
 */
public final class ReuseTest {
    private static final Checks CHECKS = new Checks();
    private static final int I32 = Binary.I32;
    private static final int I64 = Binary.I64;
    private static final int NO = Binary.NO;
    private static final byte[] TYPES = Binary.types(Binary.type(NO), Binary.type(I32), Binary.type(I64, I32, I64));

    private ReuseTest() {
    }

    public static void main(String[] args) {
        List<byte[][]> all = scenes();
        for (int i = 0; i < all.size(); i++) {
            String due = story(new WasmMerge(), all.get(i));
            for (int before = 0; before < all.size(); before++) {
                WasmMerge object = new WasmMerge();
                shortStory(object, all.get(before));
                object.clear();
                String got = story(object, all.get(i));
                CHECKS.same("scene " + i + " behind " + before + ": " + got + " for " + due, got.equals(due) ? 0 : 1, 0);
            }
        }
        stale();
        CHECKS.finish("ReuseTest");
    }

    private static List<byte[][]> scenes() {
        List<byte[][]> all = new ArrayList<>();
        byte[] host = Binary.imported("h", "h", 0, Binary.u32(0));
        byte[] many = Binary.module(TYPES, Binary.imports(host, host, host, host,
            Binary.imported("h", "i", 0, Binary.u32(2))), Binary.functions(1, 0),
            Binary.exports(Binary.export("f", 0, 5), Binary.export("g", 0, 0), Binary.export("h", 0, 4),
                Binary.export("i", 0, 6)), Binary.start(1),
            Binary.codes(Binary.body(Binary.i32(3)), Binary.body(Binary.call(2), Binary.op(0))));
        byte[] own = Binary.module(TYPES, Binary.functions(1), Binary.tables(Binary.limits(3, 5)),
            Binary.memories(Binary.limits(1, 2)), Binary.globals(Binary.global(I32, 1, Binary.i32(4)),
                Binary.global(I64, 0, Binary.i64(5))),
            Binary.exports(Binary.export("t", 1, 0), Binary.export("m", 2, 0), Binary.export("g", 3, 0),
                Binary.export("f", 0, 0), Binary.export("c", 3, 1)), Binary.elements(Binary.element(Binary.i32(1), 0)),
            Binary.codes(Binary.bodyWith(Binary.locals(3, I64), Binary.join(Binary.i32(1), Binary.bytes(0x40, 0),
                Binary.op(0x24, 0), Binary.i32(2), Binary.i32(9), Binary.access(0x36, 0, 0), Binary.op(0x23, 0)))),
            Binary.data(Binary.datum(Binary.i32(1), 6, 7, 8)));
        byte[] using = Binary.module(TYPES, Binary.imports(Binary.imported("a", "f", 0, Binary.u32(1)),
            Binary.imported("a", "g", 3, Binary.bytes(I32, 1)),
            Binary.imported("a", "c", 3, Binary.bytes(I64, 0)), Binary.imported("a", "t", 1,
                Binary.table(Binary.limits(1))), Binary.imported("a", "m", 2, Binary.limits(1))),
            Binary.functions(1), Binary.globals(Binary.global(I64, 0, Binary.op(0x23, 1))),
            Binary.exports(Binary.export("x", 0, 1), Binary.export("y", 3, 2)),
            Binary.elements(Binary.element(Binary.i32(0), 1)),
            Binary.codes(Binary.body(Binary.call(0), Binary.i32(1), Binary.indirect(1), Binary.op(0x6a))));
        byte[] wrongLimits = Binary.module(Binary.tables(Binary.limits(3, 2)));
        byte[] wrongBody = Binary.module(TYPES, Binary.functions(1), Binary.codes(Binary.body(Binary.i32(1),
            Binary.i32(2), Binary.bytes(0x02, I32), Binary.op(0), Binary.op(0x0b), Binary.i64(3))));
        byte[] tooMany = Binary.module(TYPES, Binary.functions(new int[61]),
            Binary.codes(Binary.times(61, Binary.body())));
        byte[] bodies = Binary.module(TYPES, Binary.functions(1, 1, 1), Binary.exports(Binary.export("z", 0, 2)),
            Binary.codes(Binary.body(Binary.i32(1)), Binary.body(Binary.bytes(0x02, I32), Binary.i32(5), Binary.op(0x0c, 0),
                Binary.op(0x0b)), Binary.body(Binary.i32(10), Binary.call(1), Binary.op(0x6a))));
        byte[] types = Binary.module(Binary.types(Binary.type(I64, I64)));
        byte[] bare = Binary.bytes(1, 2, 3);
        byte[] noFunctions = Binary.module(TYPES, Binary.codes());
        byte[] bodyOnly = Binary.module(TYPES, Binary.codes(Binary.body()));
        all.add(new byte[][] {many});
        all.add(new byte[][] {own});
        all.add(new byte[][] {own, using});
        all.add(new byte[][] {using});
        all.add(new byte[][] {bodies, many, own});
        all.add(new byte[][] {bodies});
        all.add(new byte[][] {types});
        all.add(new byte[][] {wrongLimits, types});
        all.add(new byte[][] {wrongBody, bodies});
        all.add(new byte[][] {tooMany, noFunctions});
        all.add(new byte[][] {bare, bodyOnly, many});
        all.add(new byte[][] {own, own});
        all.add(new byte[][] {Binary.module(), Binary.module(), bodies, bodies, bodies, own});
        return all;
    }

    /** What is called before; with what comes behind it no object has more than 512 calls. */
    private static void shortStory(WasmMerge object, byte[][] modules) {
        StringBuilder text = new StringBuilder();
        add(object, text, modules);
        text.append(heard(object::merge));
        run(object, text, modules.length);
    }

    /** All that can be heard of these MODULES. */
    private static String story(WasmMerge object, byte[][] modules) {
        StringBuilder text = new StringBuilder();
        add(object, text, modules);
        for (int k = 0; k < modules.length; k++) {
            for (int what = 0; what < 12; what++) {
                int module = k;
                int asked = what;
                text.append(heard(() -> object.told(module, asked)));
            }
        }
        text.append(heard(object::merge)).append(object.fault());
        run(object, text, modules.length);
        run(object, text, modules.length);
        return text.toString();
    }

    private static void add(WasmMerge object, StringBuilder text, byte[][] modules) {
        for (byte[] module : modules) {
            Binary.feed(object, module);
            text.append(heard(object::add)).append(object.fault()).append(' ');
        }
    }

    private static void run(WasmMerge object, StringBuilder text, int modules) {
        text.append(" begin ").append(heard(object::begin));
        counts(object, text);
        for (int k = 0; k < modules; k++) {
            for (int j = 0; j < 5; j++) {
                int module = k;
                int export = j;
                text.append(heard(() -> object.call(module, export))).append(heard(() -> object.global(module, export)));
            }
        }
        counts(object, text);
        for (int at = 0; at < 8; at++) {
            int place = at;
            text.append(heard(() -> object.memory(place)));
        }
        for (int i = 0; i < 6; i++) {
            text.append(heard(object::take));
        }
    }

    private static void counts(WasmMerge object, StringBuilder text) {
        for (int what = 0; what < 8; what++) {
            int asked = what;
            text.append(heard(() -> object.count(asked)));
        }
        text.append(heard(object::check));
    }

    private static String heard(Checks.Call call) {
        try {
            return call.run() + ",";
        } catch (RuntimeException e) {
            return e.getClass().getSimpleName().charAt(0) + ",";
        }
    }

    /** An export's name that is gone is not found any more. */
    private static void stale() {
        byte[] function = Binary.functions(1);
        byte[] codes = Binary.codes(Binary.body(Binary.i32(3)));
        WasmMerge x = Binary.with(Binary.module(TYPES, function,
            Binary.exports(Binary.export("f", 0, 0), Binary.export("g", 0, 0)), codes));
        x.clear();
        Binary.feed(x, Binary.module(TYPES, function, Binary.exports(Binary.export("f", 0, 0)), codes));
        x.add();
        Binary.feed(x, Binary.module(TYPES, Binary.imports(Binary.imported("a", "g", 0, Binary.u32(1)),
            Binary.imported("a", "f", 0, Binary.u32(1)))));
        x.add();
        x.merge();
        CHECKS.same("g is a host's now", x.count(1), 1);
    }
}
