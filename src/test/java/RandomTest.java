import java.util.ArrayList;
import java.util.List;
import java.util.Random;

/**
 * Many calls in any order, over MODULES of which some bytes are others: whatever comes, a call throws
 * nothing but what the document names for it, and changes nothing if it throws (but as the document says).
 */
public final class RandomTest {
    private static final Checks CHECKS = new Checks();
    private static final int I32 = Binary.I32;
    private static final int I64 = Binary.I64;
    private static final int NO = Binary.NO;

    private final Random random;
    private WasmMerge object = new WasmMerge();
    private int calls;

    private RandomTest(long seed) {
        random = new Random(seed);
    }

    public static void main(String[] args) {
        for (int seed = 1; seed <= 60; seed++) {
            RandomTest test = new RandomTest(seed);
            for (int i = 0; i < 500; i++) {
                test.oneCall(samples());
            }
        }
        CHECKS.finish("RandomTest");
    }

    private static List<byte[]> samples() {
        List<byte[]> all = new ArrayList<>();
        byte[] types = Binary.types(Binary.type(NO), Binary.type(I32, I32), Binary.type(I64, I32, I64));
        all.add(Binary.module(types, Binary.imports(Binary.imported("h", "h", 0, Binary.u32(1))),
            Binary.functions(1, 2, 0), Binary.tables(Binary.limits(4)), Binary.memories(Binary.limits(1)),
            Binary.globals(Binary.global(I32, 1, Binary.i32(7)), Binary.global(I64, 0, Binary.i64(-9))),
            Binary.exports(Binary.export("f", 0, 1), Binary.export("g", 3, 0), Binary.export("m", 2, 0),
                Binary.export("t", 1, 0), Binary.export("c", 3, 1), Binary.export("s", 0, 3)),
            Binary.start(3), Binary.elements(Binary.element(Binary.i32(1), 1, 2, 0)),
            Binary.codes(Binary.body(Binary.get(0), Binary.call(0), Binary.get(0), Binary.op(0x6d)),
                Binary.body(Binary.bytes(0x02, I64), Binary.get(1), Binary.get(0), Binary.labels(0, 1, 0),
                    Binary.op(0x0b)),
                Binary.body(Binary.i32(8), Binary.i64(-2), Binary.access(0x37, 3, 16), Binary.i32(1),
                    Binary.bytes(0x40, 0), Binary.op(0x24, 0))),
            Binary.data(Binary.datum(Binary.i32(3), 1, 2, 3))));
        all.add(Binary.module(types, Binary.imports(Binary.imported("a", "f", 0, Binary.u32(1)),
            Binary.imported("a", "m", 2, Binary.limits(1)), Binary.imported("a", "t", 1, Binary.table(Binary.limits(2))),
            Binary.imported("a", "g", 3, Binary.bytes(I32, 1))), Binary.functions(1),
            Binary.exports(Binary.export("r", 0, 1), Binary.export("g", 3, 0), Binary.export("f", 0, 0)),
            Binary.codes(Binary.body(Binary.bytes(0x03, NO), Binary.get(0), Binary.i32(1), Binary.op(0x6b),
                Binary.op(0x22, 0), Binary.op(0x0d, 0), Binary.op(0x0b), Binary.get(0), Binary.i32(2),
                Binary.indirect(1)))));
        all.add(Binary.module(types, Binary.functions(1), Binary.exports(Binary.export("f", 0, 0)),
            Binary.codes(Binary.body(Binary.get(0), Binary.bytes(0x04, I32), Binary.get(0), Binary.call(0),
                Binary.bytes(0x05), Binary.i32(4), Binary.op(0x0b)))));
        all.add(Binary.module());
        return all;
    }

    private byte[] mutated(byte[] sample) {
        byte[] other = sample.clone();
        int times = random.nextInt(3) == 0 ? random.nextInt(4) : 0;
        for (int i = 0; i < times; i++) {
            other[random.nextInt(other.length)] = (byte) random.nextInt(256);
        }
        return other;
    }

    private int any() {
        int[] some = {0, 0, 0, 1, 1, 2, 3, 5, 6, 10, 11, 65535, 65536, -1, Integer.MAX_VALUE, Integer.MIN_VALUE};
        return some[random.nextInt(some.length)];
    }

    private void oneCall(List<byte[]> samples) {
        calls++;
        if (calls % 400 == 0) {
            object = new WasmMerge();
        }
        switch (random.nextInt(17)) {
            case 0: allowed("clear", random.nextInt(6) == 0 ? object::clear : object::fault); break;
            case 1: case 2: case 3: adding(mutated(samples.get(random.nextInt(samples.size())))); break;
            case 4: allowed("merge", object::merge, IllegalStateException.class, UnsupportedOperationException.class); break;
            case 5: case 6: allowed("begin", object::begin, IllegalStateException.class, ArithmeticException.class); break;
            case 7: allowed("argument", () -> object.argument(any()), IllegalStateException.class); break;
            case 8: case 9: case 10: allowed("call", () -> object.call(any(), any()), IllegalStateException.class,
                IndexOutOfBoundsException.class, IllegalArgumentException.class, ArithmeticException.class); break;
            case 11: allowed("take", object::take); break;
            case 12: allowed("memory", () -> object.memory(any()), IllegalStateException.class); break;
            case 13: allowed("global", () -> object.global(any(), any()), IllegalStateException.class,
                IndexOutOfBoundsException.class, IllegalArgumentException.class); break;
            case 14: allowed("told", () -> object.told(any(), any()), IndexOutOfBoundsException.class,
                IllegalArgumentException.class); break;
            case 15: allowed("count", () -> object.count(any()), IllegalStateException.class,
                IllegalArgumentException.class); break;
            default: allowed("check", object::check, IllegalStateException.class); break;
        }
        long fault = object.fault();
        long trap = object.trap();
        CHECKS.same("fault and trap", fault >= 0 && fault <= 5 && trap >= 0 && trap <= 7 ? 0 : 1, 0);
    }

    private void adding(byte[] module) {
        Binary.feed(object, module);
        allowed("add", object::add, IllegalStateException.class, UnsupportedOperationException.class);
    }

    @SafeVarargs
    private void allowed(String what, Checks.Call call, Class<? extends RuntimeException>... due) {
        try {
            call.run();
            CHECKS.same(what, 0, 0);
        } catch (RuntimeException e) {
            boolean named = false;
            for (Class<? extends RuntimeException> one : due) {
                named |= e.getClass() == one;
            }
            // what the machine throws has its own line as the first of the trace, not a throw statement's class
            CHECKS.same(what + " threw " + e, named && !e.getStackTrace()[0].getClassName().startsWith("java.") ? 0 : 1, 0);
        }
    }
}
