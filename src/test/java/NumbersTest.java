import java.math.BigInteger;
import java.util.Random;

/** Term 1 and Promise 9: what each numeric INSTRUCTION, load and store gives, reckoned here by other means. */
public final class NumbersTest {
    private static final Checks CHECKS = new Checks();
    private static final int I32 = Binary.I32;
    private static final int I64 = Binary.I64;
    private static final int NO = Binary.NO;
    private static final long[] NARROW = {0, 1, 2, 3, 7, 31, 32, 33, 100, 255, 65536, 0x12345678L, 0x7fffffffL,
        -1, -2, -7, -32, -100, -65536, -0x80000000L, -0x7fffffffL, 0x55555555L};
    private static final long[] WIDE = {0, 1, 2, 3, 7, 63, 64, 65, 100, 0x7fffffffL, 0x80000000L, 0xffffffffL,
        0x100000000L, 0x123456789abcdefL, Long.MAX_VALUE, -1, -2, -7, -64, -100, -0x80000000L, Long.MIN_VALUE,
        Long.MIN_VALUE + 1};
    private static final BigInteger ONE = BigInteger.ONE;

    private NumbersTest() {
    }

    public static void main(String[] args) {
        for (int op = 0x45; op <= 0x5a; op++) {
            comparison(op);
        }
        for (int op = 0x67; op <= 0x8a; op++) {
            arithmetic(op);
        }
        divisionsWithoutSigns();
        neighboursOfProducts();
        conversions();
        loads();
        stores();
        constants();
        CHECKS.finish("NumbersTest");
    }

    private static WasmMerge running(int result, int first, int second, int op, boolean unary) {
        byte[] code = unary ? Binary.join(Binary.get(0), Binary.op(op))
            : Binary.join(Binary.get(0), Binary.get(1), Binary.op(op));
        return Binary.running(Binary.module(Binary.types(Binary.type(result, first, second)), Binary.functions(0),
            Binary.exports(Binary.export("f", 0, 0)), Binary.codes(Binary.body(code))));
    }

    /** The value as a number from 0 on. */
    private static BigInteger unsigned(long value, int bits) {
        return BigInteger.valueOf(value).mod(ONE.shiftLeft(bits));
    }

    private static long signed(BigInteger value, int bits) {
        return bits == 32 ? value.intValue() : value.longValue();
    }

    private static void comparison(int op) {
        boolean wide = op >= 0x50;
        int bits = wide ? 64 : 32;
        int type = wide ? I64 : I32;
        int which = wide ? op - 0x50 : op - 0x45;
        WasmMerge x = running(I32, type, type, op, which == 0);
        int calls = 0;
        for (long a : wide ? WIDE : NARROW) {
            for (long b : wide ? WIDE : NARROW) {
                if (calls++ % 150 == 149) {
                    x = running(I32, type, type, op, which == 0);
                }
                int signs = Long.compare(a, b);
                int order = which % 2 == 1 || which == 2 ? signs : unsigned(a, bits).compareTo(unsigned(b, bits));
                boolean due;
                switch (which) {
                    case 0: due = a == 0; break;
                    case 1: due = signs == 0; break;
                    case 2: due = signs != 0; break;
                    case 3: case 4: due = order < 0; break;
                    case 5: case 6: due = order > 0; break;
                    case 7: case 8: due = order <= 0; break;
                    default: due = order >= 0; break;
                }
                CHECKS.same(op + " of " + a + " and " + b, Binary.callWith(x, 0, 0, a, b), due ? 1 : 0);
            }
        }
    }

    private static void arithmetic(int op) {
        boolean wide = op >= 0x79;
        int bits = wide ? 64 : 32;
        int type = wide ? I64 : I32;
        int which = wide ? op - 0x79 : op - 0x67;
        WasmMerge x = running(type, type, type, op, which < 3);
        int calls = 0;
        for (long a : wide ? WIDE : NARROW) {
            for (long b : wide ? WIDE : NARROW) {
                if (calls++ % 100 == 99) {
                    x = running(type, type, type, op, which < 3);
                }
                String what = op + " of " + a + " and " + b;
                boolean tooLarge = which == 6 && b == -1 && a == -1L << (bits - 1);
                if (which >= 6 && which <= 9 && b == 0 || tooLarge) {
                    CHECKS.same(what, Binary.callTrap(x, 0, 0, a, b), 2);
                } else {
                    CHECKS.same(what, Binary.callWith(x, 0, 0, a, b), due(which, bits, a, b));
                }
            }
        }
    }

    private static long due(int which, int bits, long a, long b) {
        BigInteger first = BigInteger.valueOf(a);
        BigInteger second = BigInteger.valueOf(b);
        BigInteger low = unsigned(a, bits);
        int by = unsigned(b, bits).mod(BigInteger.valueOf(bits)).intValue();
        switch (which) {
            case 0: return bits - low.bitLength();
            case 1: return low.signum() == 0 ? bits : low.getLowestSetBit();
            case 2: return low.bitCount();
            case 3: return signed(first.add(second), bits);
            case 4: return signed(first.subtract(second), bits);
            case 5: return signed(first.multiply(second), bits);
            case 6: return signed(first.divide(second), bits);
            case 7: return signed(low.divide(unsigned(b, bits)), bits);
            case 8: return signed(first.remainder(second), bits);
            case 9: return signed(low.remainder(unsigned(b, bits)), bits);
            case 10: return signed(first.and(second), bits);
            case 11: return signed(first.or(second), bits);
            case 12: return signed(first.xor(second), bits);
            case 13: return signed(low.shiftLeft(by), bits);
            case 14: return signed(first.shiftRight(by), bits);
            case 15: return signed(low.shiftRight(by), bits);
            case 16: return signed(low.shiftLeft(by).or(low.shiftRight(bits - by)), bits);
            default: return signed(low.shiftRight(by).or(low.shiftLeft(bits - by)), bits);
        }
    }

    /** Each row: a dividend, a divisor, and the quotient and the rest that are due, written out. */
    private static void divisionsWithoutSigns() {
        long high = Long.MIN_VALUE;
        long most = Long.MAX_VALUE;
        long[][] rows = {
            // neither has its highest bit set: the divisor below, the same, above, and 1
            {100, 7, 14, 2}, {most, 2, 0x3fffffffffffffffL, 1}, {7, 7, 1, 0}, {most, most, 1, 0},
            {7, 100, 0, 7}, {0, 1, 0, 0}, {0, most, 0, 0}, {most - 1, most, 0, most - 1}, {5, 1, 5, 0}, {most, 1, most, 0},
            // the dividend has: the divisor is below, whatever it is
            {high, 1, high, 0}, {-1, 1, -1, 0}, {high, 2, 0x4000000000000000L, 0}, {-1, 2, most, 1},
            {-1, 3, 0x5555555555555555L, 0}, {-2, 3, 0x5555555555555554L, 2}, {-1, 10, 1844674407370955161L, 5},
            {high, 10, 922337203685477580L, 8}, {high, most, 1, 1}, {-2, most, 2, 0}, {-1, most, 2, 1}, {-3, most, 1, most - 1},
            {-1, 0x100000000L, 0xffffffffL, 0xffffffffL}, {high + 5, most, 1, 6},
            // the divisor has: it is above
            {0, high, 0, 0}, {1, high, 0, 1}, {most, high, 0, most}, {0, -1, 0, 0}, {1, -1, 0, 1}, {most, -1, 0, most},
            {100, -7, 0, 100},
            // both have: the divisor below, the same, above, and -1
            {-1, high, 1, most}, {-1, -2, 1, 1}, {high + 1, high, 1, 1}, {high, high, 1, 0}, {-1, -1, 1, 0}, {-7, -7, 1, 0},
            {high, high + 1, 0, high}, {high, -1, 0, high}, {-2, -1, 0, -2}, {-100, -7, 0, -100},
        };
        WasmMerge quotients = running(I64, I64, I64, 0x80, false);
        WasmMerge rests = running(I64, I64, I64, 0x82, false);
        for (long[] row : rows) {
            String what = row[0] + " and " + row[1];
            CHECKS.same("i64.div_u of " + what, Binary.callWith(quotients, 0, 0, row[0], row[1]), row[2]);
            CHECKS.same("i64.rem_u of " + what, Binary.callWith(rests, 0, 0, row[0], row[1]), row[3]);
        }
        for (long dividend : new long[] {0, 1, most, high, -1}) {
            CHECKS.same("i64.div_u of " + dividend + " and 0", Binary.callTrap(quotients, 0, 0, dividend, 0), 2);
            CHECKS.same("i64.rem_u of " + dividend + " and 0", Binary.callTrap(rests, 0, 0, dividend, 0), 2);
        }
        CHECKS.same("i64.div_u behind a TRAP", Binary.callWith(quotients, 0, 0, -1, 2), most);
        CHECKS.same("i64.rem_u behind a TRAP", Binary.callWith(rests, 0, 0, -1, 10), 5);
    }

    /** Dividends that lie at, one below and one above a multiple of the divisor, where a quotient changes. */
    private static void neighboursOfProducts() {
        Random random = new Random(6);
        for (int op : new int[] {0x6e, 0x70, 0x80, 0x82}) {
            divideNearProducts(op, random);
        }
    }

    private static void divideNearProducts(int op, Random random) {
        boolean wide = op >= 0x79;
        int bits = wide ? 64 : 32;
        int type = wide ? I64 : I32;
        for (int round = 0; round < 40; round++) {
            WasmMerge x = running(type, type, type, op, false);
            for (int i = 0; i < 30; i++) {
                BigInteger divisor = new BigInteger(1 + random.nextInt(bits), random).max(ONE);
                BigInteger times = ONE.shiftLeft(bits).subtract(ONE).divide(divisor);
                BigInteger product = i % 2 == 0 ? times.multiply(divisor)
                    : new BigInteger(bits, random).mod(times.add(ONE)).multiply(divisor);
                for (int away = -1; away <= 1; away++) {
                    long a = signed(product.add(BigInteger.valueOf(away)), bits);
                    long b = signed(divisor, bits);
                    CHECKS.same(op + " of " + a + " and " + b, Binary.callWith(x, 0, 0, a, b),
                        due(op - (wide ? 0x79 : 0x67), bits, a, b));
                }
            }
        }
    }

    private static void conversions() {
        WasmMerge wrap = running(I32, I64, I32, 0xa7, true);
        WasmMerge signs = running(I64, I32, I32, 0xac, true);
        WasmMerge zeros = running(I64, I32, I32, 0xad, true);
        for (long a : WIDE) {
            CHECKS.same("wrap of " + a, Binary.callWith(wrap, 0, 0, a, 0), (int) a);
        }
        for (long a : NARROW) {
            CHECKS.same("extend_s of " + a, Binary.callWith(signs, 0, 0, a, 0), a);
            CHECKS.same("extend_u of " + a, Binary.callWith(zeros, 0, 0, a, 0), unsigned(a, 32).longValue());
        }
    }

    private static boolean isNarrow(int op) {
        return op == 0x28 || op >= 0x2c && op <= 0x2f || op == 0x36 || op == 0x3a || op == 0x3b;
    }

    private static int bytesOf(int op) {
        int[] bytes = {4, 8, 0, 0, 1, 1, 2, 2, 1, 1, 2, 2, 4, 4, 4, 8, 0, 0, 1, 2, 1, 2, 4};
        return bytes[op - 0x28];
    }

    private static void loads() {
        int[] content = {0x00, 0x7f, 0x80, 0xff, 0x01, 0x90, 0xab, 0xcd, 0xef, 0x12, 0xf3, 0x84, 0x05, 0x66, 0xf7, 0x08};
        for (int op = 0x28; op <= 0x35; op++) {
            int many = bytesOf(op);
            if (many == 0) {
                continue;
            }
            boolean whole = op < 0x2c;
            boolean signs = whole || op % 2 == 0;
            int type = isNarrow(op) ? I32 : I64;
            WasmMerge x = Binary.running(Binary.module(Binary.types(Binary.type(type, I32)), Binary.functions(0),
                Binary.memories(Binary.limits(1)), Binary.exports(Binary.export("f", 0, 0)),
                Binary.codes(Binary.body(Binary.get(0), Binary.access(op, 0, 300))),
                Binary.data(Binary.datum(Binary.i32(300), content))));
            for (int at = 0; at + many <= content.length; at++) {
                BigInteger value = BigInteger.ZERO;
                for (int i = many - 1; i >= 0; i--) {
                    value = value.shiftLeft(8).or(BigInteger.valueOf(content[at + i]));
                }
                if (signs && value.testBit(8 * many - 1)) {
                    value = value.subtract(ONE.shiftLeft(8 * many));
                }
                CHECKS.same("load " + op + " at " + at, Binary.callWith(x, 0, 0, at), value.longValue());
            }
        }
    }

    private static void stores() {
        for (int op = 0x36; op <= 0x3e; op++) {
            int many = bytesOf(op);
            if (many == 0) {
                continue;
            }
            int type = isNarrow(op) ? I32 : I64;
            WasmMerge x = Binary.running(Binary.module(Binary.types(Binary.type(NO, I32, type)), Binary.functions(0),
                Binary.memories(Binary.limits(1)), Binary.exports(Binary.export("f", 0, 0)),
                Binary.codes(Binary.body(Binary.get(0), Binary.get(1), Binary.access(op, 0, 20)))));
            long value = 0x8192a3b4c5d6e7f8L;
            Binary.callWith(x, 0, 0, 11, value);
            for (int i = -1; i <= 8; i++) {
                long due = i >= 0 && i < many ? value >> 8 * i & 255 : 0;
                CHECKS.same("store " + op + " byte " + i, x.memory(31 + i), due);
            }
        }
    }

    private static void constants() {
        for (long a : WIDE) {
            WasmMerge x = Binary.running(Binary.module(Binary.types(Binary.type(I64)), Binary.functions(0),
                Binary.exports(Binary.export("f", 0, 0)), Binary.codes(Binary.body(Binary.i64(a)))));
            CHECKS.same("i64.const " + a, x.call(0, 0), a);
        }
        for (long a : NARROW) {
            WasmMerge x = Binary.running(Binary.module(Binary.types(Binary.type(I32)), Binary.functions(0),
                Binary.exports(Binary.export("f", 0, 0)), Binary.codes(Binary.body(Binary.i32((int) a)))));
            CHECKS.same("i32.const " + a, x.call(0, 0), a);
        }
    }
}
