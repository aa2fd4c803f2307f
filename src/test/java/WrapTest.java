/**
 * Term 1, "arithmetic of i32 and i64", where it wraps around: the smallest and the largest number of each, -1, and shifts
 * and rotations by 0, by the width, by more and by less than 0. Every answer that is due is written out.
 */
public final class WrapTest {
    private static final Checks CHECKS = new Checks();
    private static final int I32 = Binary.I32;
    private static final int I64 = Binary.I64;
    // the smallest and the largest i32 and i64
    private static final long MIN = Integer.MIN_VALUE;
    private static final long MAX = Integer.MAX_VALUE;
    private static final long LOW = Long.MIN_VALUE;
    private static final long HIGH = Long.MAX_VALUE;
    private static final long TRAP = 2;

    private static final int ADD = 3;
    private static final int SUB = 4;
    private static final int MUL = 5;
    private static final int DIV_S = 6;
    private static final int DIV_U = 7;
    private static final int REM_S = 8;
    private static final int REM_U = 9;
    private static final int SHL = 13;
    private static final int SHR_S = 14;
    private static final int SHR_U = 15;
    private static final int ROTL = 16;
    private static final int ROTR = 17;

    private WrapTest() {
    }

    public static void main(String[] args) {
        sums32();
        sums64();
        products32();
        products64();
        divisions32();
        divisions64();
        divisionTraps();
        shifts32();
        shifts64();
        rotations32();
        rotations64();
        bits();
        comparisons32();
        comparisons64();
        conversions();
        narrowStaysNarrow();
        narrowStores();
        narrowLoads();
        CHECKS.finish("WrapTest");
    }

    private static WasmMerge binary(int type, int result, int op) {
        return Binary.running(Modules.function(Binary.type(result, type, type), Binary.get(0), Binary.get(1),
            Binary.op(op)));
    }

    private static WasmMerge unary(int type, int result, int op) {
        return Binary.running(Modules.function(Binary.type(result, type), Binary.get(0), Binary.op(op)));
    }

    /** Each row: two operands, and what is due. */
    private static void narrow(String name, int which, long[]... rows) {
        rows(name, binary(I32, I32, 0x67 + which), rows);
    }

    private static void wide(String name, int which, long[]... rows) {
        rows(name, binary(I64, I64, 0x79 + which), rows);
    }

    private static void rows(String name, WasmMerge x, long[]... rows) {
        for (long[] row : rows) {
            CHECKS.answers(name + " of " + row[0] + " and " + row[1], () -> Binary.callWith(x, 0, 0, row[0], row[1]),
                row[2]);
        }
    }

    private static long[] row(long a, long b, long due) {
        return new long[] {a, b, due};
    }

    private static void sums32() {
        CHECKS.sentence("arithmetic of i32 and i64");
        narrow("i32.add", ADD, row(MAX, 1, MIN), row(MIN, -1, MAX), row(MAX, MAX, -2), row(MIN, MIN, 0), row(-1, 1, 0),
            row(-1, -1, -2), row(MAX, MIN, -1), row(MIN, 0, MIN), row(MAX, 0, MAX), row(MAX, -1, MAX - 1));
        narrow("i32.sub", SUB, row(MIN, 1, MAX), row(MAX, -1, MIN), row(0, MIN, MIN), row(MIN, MIN, 0), row(0, MAX,
            MIN + 1),
            row(-1, MIN, MAX), row(-1, MAX, MIN), row(MAX, MIN, -1), row(MIN, MAX, 1), row(0, 1, -1));
    }

    private static void sums64() {
        CHECKS.sentence("arithmetic of i32 and i64");
        wide("i64.add", ADD, row(HIGH, 1, LOW), row(LOW, -1, HIGH), row(HIGH, HIGH, -2), row(LOW, LOW, 0), row(-1, 1,
            0),
            row(HIGH, LOW, -1), row(MAX, 1, MAX + 1), row(MIN, -1, MIN - 1), row(0xffffffffL, 1, 0x100000000L));
        wide("i64.sub", SUB, row(LOW, 1, HIGH), row(HIGH, -1, LOW), row(0, LOW, LOW), row(LOW, LOW, 0), row(0, HIGH,
            LOW + 1),
            row(-1, LOW, HIGH), row(HIGH, LOW, -1), row(LOW, HIGH, 1), row(MIN, 1, MIN - 1), row(MAX, -1, MAX + 1));
    }

    private static void products32() {
        CHECKS.sentence("arithmetic of i32 and i64");
        narrow("i32.mul", MUL, row(MIN, -1, MIN), row(MAX, -1, MIN + 1), row(MIN, 2, 0), row(MAX, 2, -2), row(MIN, MIN,
            0),
            row(MAX, MAX, 1), row(MIN, MAX, MIN), row(-1, -1, 1), row(65536, 65536, 0), row(65536, 32768, MIN),
            row(46341, 46341, -2147479015),
            row(0x12345678, 16, 0x23456780));
    }

    private static void products64() {
        CHECKS.sentence("arithmetic of i32 and i64");
        wide("i64.mul", MUL, row(LOW, -1, LOW), row(HIGH, -1, LOW + 1), row(LOW, 2, 0), row(HIGH, 2, -2), row(LOW, LOW,
            0),
            row(HIGH, HIGH, 1), row(LOW, HIGH, LOW), row(-1, -1, 1), row(0x100000000L, 0x100000000L, 0),
            row(0x100000000L, 0x80000000L, LOW), row(MIN, -1, 0x80000000L), row(MAX, MAX, 0x3fffffff00000001L));
    }

    private static void divisions32() {
        CHECKS.sentence("arithmetic of i32 and i64");
        narrow("i32.div_s", DIV_S, row(MIN, 1, MIN), row(MIN, 2, -1073741824), row(MIN, -2, 1073741824), row(MAX, -1,
            MIN + 1),
            row(MIN + 1, -1, MAX), row(MIN, MIN, 1), row(MAX, MIN, 0), row(MIN, MAX, -1), row(-1, MIN, 0), row(-7, 2,
            -3),
            row(7, -2, -3), row(0, -1, 0), row(-1, -1, 1));
        narrow("i32.div_u", DIV_U, row(MIN, -1, 0), row(-1, MIN, 1), row(-1, -1, 1), row(-1, 1, -1), row(-1, 2, MAX),
            row(MIN, 2, 0x40000000),
            row(MAX, -1, 0), row(-2, -1, 0), row(-1, MAX, 2), row(0, -1, 0), row(MIN, 1, MIN), row(-1, 3, 0x55555555));
        narrow("i32.rem_s", REM_S, row(MIN, -1, 0), row(MIN, 1, 0), row(MAX, -1, 0), row(MIN, MAX, -1), row(MAX, MIN,
            MAX), row(MIN, MIN, 0),
            row(-7, 2, -1), row(7, -2, 1), row(-1, MIN, -1), row(MIN, 3, -2), row(0, -1, 0));
        narrow("i32.rem_u", REM_U, row(MIN, -1, MIN), row(-1, MIN, MAX), row(-1, -1, 0), row(-1, 1, 0), row(-1, 2, 1),
            row(MIN, 3, 2),
            row(-2, -1, -2), row(-1, 10, 5), row(MAX, -1, MAX), row(0, -1, 0));
    }

    private static void divisions64() {
        CHECKS.sentence("arithmetic of i32 and i64");
        wide("i64.div_s", DIV_S, row(LOW, 1, LOW), row(LOW, 2, -0x4000000000000000L), row(LOW, -2, 0x4000000000000000L),
            row(HIGH, -1, LOW + 1), row(LOW + 1, -1, HIGH), row(LOW, LOW, 1), row(HIGH, LOW, 0), row(LOW, HIGH, -1),
            row(MIN, -1, 0x80000000L),
            row(-7, 2, -3), row(7, -2, -3), row(0, -1, 0), row(-1, -1, 1));
        wide("i64.div_u", DIV_U, row(LOW, -1, 0), row(-1, LOW, 1), row(-1, -1, 1), row(-1, 1, -1), row(-1, 2, HIGH),
            row(LOW, 2, 0x4000000000000000L), row(HIGH, -1, 0), row(-2, -1, 0), row(-1, HIGH, 2), row(0, -1, 0),
            row(LOW, 1, LOW),
            row(-1, 0x100000000L, 0xffffffffL));
        wide("i64.rem_s", REM_S, row(LOW, -1, 0), row(LOW, 1, 0), row(HIGH, -1, 0), row(LOW, HIGH, -1), row(HIGH, LOW,
            HIGH), row(LOW, LOW, 0),
            row(-7, 2, -1), row(7, -2, 1), row(-1, LOW, -1), row(LOW, 3, -2), row(0, -1, 0));
        wide("i64.rem_u", REM_U, row(LOW, -1, LOW), row(-1, LOW, HIGH), row(-1, -1, 0), row(-1, 1, 0), row(-1, 2, 1),
            row(LOW, 3, 2),
            row(-2, -1, -2), row(-1, 10, 5), row(HIGH, -1, HIGH), row(-1, 0x100000000L, 0xffffffffL));
    }

    private static void divisionTraps() {
        CHECKS.sentence("2 division by 0 or that is too large");
        for (int which = DIV_S; which <= REM_U; which++) {
            for (long a : new long[] {0, 1, -1, MIN, MAX}) {
                CHECKS.same("i32 " + which + " of " + a, Binary.callTrap(binary(I32, I32, 0x67 + which), 0, 0, a, 0),
                    TRAP);
            }
            for (long a : new long[] {0, 1, -1, LOW, HIGH}) {
                CHECKS.same("i64 " + which + " of " + a, Binary.callTrap(binary(I64, I64, 0x79 + which), 0, 0, a, 0),
                    TRAP);
            }
        }
        CHECKS.same("i32.div_s", Binary.callTrap(binary(I32, I32, 0x6d), 0, 0, MIN, -1), TRAP);
        CHECKS.same("i64.div_s", Binary.callTrap(binary(I64, I64, 0x7f), 0, 0, LOW, -1), TRAP);
        CHECKS.same("i64.div_s of the smallest i32", Binary.callTrap(binary(I64, I64, 0x7f), 0, 0, MIN, -1), 0);
    }

    private static void shifts32() {
        CHECKS.sentence("arithmetic of i32 and i64");
        narrow("i32.shl", SHL, row(-1, 0, -1), row(-1, 1, -2), row(-1, 31, MIN), row(-1, 32, -1), row(-1, 33, -2),
            row(-1, 63, MIN),
            row(-1, 64, -1), row(-1, -1, MIN), row(-1, -31, -2), row(-1, -32, -1), row(-1, -33, MIN), row(1, 31, MIN),
            row(2, 31, 0), row(1, 32, 1),
            row(MIN, 1, 0), row(MAX, 1, -2), row(1, MIN, 1), row(1, MAX, MIN));
        narrow("i32.shr_s", SHR_S, row(MIN, 0, MIN), row(MIN, 1, -0x40000000), row(MIN, 31, -1), row(MIN, 32, MIN),
            row(MIN, 33, -0x40000000),
            row(MIN, -1, -1), row(MIN, -31, -0x40000000), row(MIN, -32, MIN), row(MAX, 30, 1), row(MAX, 31, 0), row(MAX,
            32, MAX), row(-1, 31, -1),
            row(-1, MIN, -1), row(MIN, MAX, -1), row(MIN, MIN, MIN));
        narrow("i32.shr_u", SHR_U, row(MIN, 0, MIN), row(MIN, 1, 0x40000000), row(MIN, 31, 1), row(MIN, 32, MIN),
            row(MIN, 33, 0x40000000),
            row(MIN, -1, 1), row(MIN, -31, 0x40000000), row(MIN, -32, MIN), row(-1, 0, -1), row(-1, 1, MAX), row(-1, 31,
            1), row(-1, 32, -1),
            row(MAX, 31, 0), row(-1, MAX, 1), row(-1, MIN, -1));
    }

    private static void shifts64() {
        CHECKS.sentence("arithmetic of i32 and i64");
        wide("i64.shl", SHL, row(-1, 0, -1), row(-1, 1, -2), row(-1, 32, -0x100000000L), row(-1, 63, LOW), row(-1, 64,
            -1), row(-1, 65, -2),
            row(-1, 127, LOW), row(-1, 128, -1), row(-1, -1, LOW), row(-1, -63, -2), row(-1, -64, -1), row(-1, -65,
            LOW), row(1, 63, LOW),
            row(2, 63, 0), row(LOW, 1, 0), row(HIGH, 1, -2), row(1, LOW, 1), row(1, HIGH, LOW), row(1, 0x100000000L, 1),
            row(1, 0x100000001L, 2));
        wide("i64.shr_s", SHR_S, row(LOW, 0, LOW), row(LOW, 1, -0x4000000000000000L), row(LOW, 32, MIN), row(LOW, 63,
            -1), row(LOW, 64, LOW),
            row(LOW, 65, -0x4000000000000000L), row(LOW, -1, -1), row(LOW, -63, -0x4000000000000000L), row(LOW, -64,
            LOW), row(HIGH, 62, 1),
            row(HIGH, 63, 0), row(HIGH, 64, HIGH), row(-1, 63, -1), row(LOW, HIGH, -1), row(LOW, LOW, LOW));
        wide("i64.shr_u", SHR_U, row(LOW, 0, LOW), row(LOW, 1, 0x4000000000000000L), row(LOW, 32, 0x80000000L), row(LOW,
            63, 1), row(LOW, 64, LOW),
            row(LOW, 65, 0x4000000000000000L), row(LOW, -1, 1), row(LOW, -63, 0x4000000000000000L), row(LOW, -64, LOW),
            row(-1, 0, -1),
            row(-1, 1, HIGH), row(-1, 63, 1), row(-1, 64, -1), row(HIGH, 63, 0), row(-1, HIGH, 1), row(-1, LOW, -1),
            row(-1, 0x100000000L, -1));
    }

    private static void rotations32() {
        CHECKS.sentence("arithmetic of i32 and i64");
        narrow("i32.rotl", ROTL, row(0x12345678, 0, 0x12345678), row(0x12345678, 4, 0x23456781), row(0x12345678, 32,
            0x12345678),
            row(0x12345678, 36, 0x23456781), row(0x12345678, -4, (int) 0x81234567L), row(0x12345678, -32, 0x12345678),
            row(0x12345678, 28, (int) 0x81234567L),
            row(MIN, 1, 1), row(1, 31, MIN), row(1, 32, 1), row(1, -1, MIN), row(-1, 7, -1), row(MAX, 1, -2), row(1,
            MIN, 1), row(1, MAX, MIN));
        narrow("i32.rotr", ROTR, row(0x12345678, 0, 0x12345678), row(0x12345678, 4, (int) 0x81234567L), row(0x12345678,
            32, 0x12345678),
            row(0x12345678, 36, (int) 0x81234567L), row(0x12345678, -4, 0x23456781), row(0x12345678, -32, 0x12345678),
            row(0x12345678, 28, 0x23456781),
            row(1, 1, MIN), row(MIN, 31, 1), row(MIN, 32, MIN), row(MIN, -1, 1), row(-1, 7, -1), row(MAX, 1,
            (int) 0xbfffffffL), row(1, MIN, 1), row(1, MAX, 2));
    }

    private static void rotations64() {
        CHECKS.sentence("arithmetic of i32 and i64");
        long some = 0x123456789abcdef0L;
        long left = 0x23456789abcdef01L;
        long right = 0x0123456789abcdefL;
        wide("i64.rotl", ROTL, row(some, 0, some), row(some, 4, left), row(some, 64, some), row(some, 68, left),
            row(some, -4, right),
            row(some, 60, right), row(some, -64, some), row(some, 32, 0x9abcdef012345678L), row(LOW, 1, 1), row(1, 63,
            LOW), row(1, 64, 1),
            row(1, -1, LOW), row(-1, 9, -1), row(HIGH, 1, -2), row(1, LOW, 1), row(1, HIGH, LOW), row(1, 0x100000001L,
            2));
        wide("i64.rotr", ROTR, row(some, 0, some), row(some, 4, right), row(some, 64, some), row(some, 68, right),
            row(some, -4, left),
            row(some, 60, left), row(some, -64, some), row(some, 32, 0x9abcdef012345678L), row(1, 1, LOW), row(LOW, 63,
            1), row(LOW, 64, LOW),
            row(LOW, -1, 1), row(-1, 9, -1), row(HIGH, 1, 0xbfffffffffffffffL), row(1, LOW, 1), row(1, HIGH, 2), row(1,
            0x100000001L, LOW));
    }

    private static void bits() {
        CHECKS.sentence("arithmetic of i32 and i64");
        // a number, and how many zeros lead, how many trail, and how many ones it has
        long[][] narrow = {{0, 32, 32, 0}, {1, 31, 0, 1}, {-1, 0, 0, 32}, {MIN, 0, 31, 1}, {MAX, 1, 0, 31}, {-2, 0, 1,
            31}, {65536, 15, 16, 1}};
        long[][] wide = {{0, 64, 64, 0}, {1, 63, 0, 1}, {-1, 0, 0, 64}, {LOW, 0, 63, 1}, {HIGH, 1, 0, 63}, {-2, 0, 1,
            63},
            {0x100000000L, 31, 32, 1}, {0xffffffffL, 32, 0, 32}, {MIN, 0, 31, 33}};
        String[] names = {"clz", "ctz", "popcnt"};
        for (int which = 0; which < 3; which++) {
            WasmMerge x = unary(I32, I32, 0x67 + which);
            for (long[] row : narrow) {
                CHECKS.same("i32." + names[which] + " of " + row[0], Binary.callWith(x, 0, 0, row[0]), row[1 + which]);
            }
            WasmMerge y = unary(I64, I64, 0x79 + which);
            for (long[] row : wide) {
                CHECKS.same("i64." + names[which] + " of " + row[0], Binary.callWith(y, 0, 0, row[0]), row[1 + which]);
            }
        }
        narrow("i32.and", 10, row(MIN, 0, 0), row(-1, 0, 0), row(MIN, -1, MIN), row(MIN, MAX, 0), row(-1, -1, -1),
            row(MAX, -1, MAX));
        narrow("i32.or", 11, row(MIN, MAX, -1), row(MIN, 0, MIN), row(0, 0, 0), row(MAX, -1, -1));
        narrow("i32.xor", 12, row(MIN, -1, MAX), row(MIN, MAX, -1), row(-1, -1, 0), row(MAX, -1, MIN));
        wide("i64.and", 10, row(LOW, 0, 0), row(-1, 0, 0), row(LOW, -1, LOW), row(LOW, HIGH, 0), row(-1, 0xffffffffL,
            0xffffffffL), row(HIGH, -1,
            HIGH));
        wide("i64.or", 11, row(LOW, HIGH, -1), row(LOW, 0, LOW), row(0x100000000L, 1, 0x100000001L));
        wide("i64.xor", 12, row(LOW, -1, HIGH), row(LOW, HIGH, -1), row(-1, -1, 0), row(-1, 0xffffffffL,
            -0x100000000L));
    }

    /** Each row: two numbers; then eqz of the first and what the ten comparisons give, as digits. */
    private static void comparisons(String name, int type, int first, long[][] numbers, String... due) {
        WasmMerge zero = unary(type, I32, first);
        for (int i = 0; i < numbers.length; i++) {
            long a = numbers[i][0];
            long b = numbers[i][1];
            StringBuilder got = new StringBuilder();
            got.append(Binary.callWith(zero, 0, 0, a));
            for (int which = 1; which <= 10; which++) {
                got.append(Binary.callWith(binary(type, I32, first + which), 0, 0, a, b));
            }
            CHECKS.sameText(name + " " + a + " and " + b, got.toString(), due[i]);
        }
    }

    // eqz, eq, ne, lt_s, lt_u, gt_s, gt_u, le_s, le_u, ge_s, ge_u
    private static final String SAME = "01000001111";
    private static final String BOTH_ZERO = "11000001111";
    private static final String BELOW = "00111001100";
    private static final String ZERO_BELOW = "10111001100";
    private static final String ABOVE = "00100110011";
    private static final String BELOW_BY_SIGN = "00110011001";
    private static final String ABOVE_BY_SIGN = "00101100110";

    private static void comparisons32() {
        CHECKS.sentence("all tests, comparisons");
        long[][] numbers = {{MIN, MIN}, {MIN, MAX}, {MAX, MIN}, {0, 1}, {MAX, -1}, {-1, 0}, {0, 0}, {MIN, -1}, {1, 0},
            {-1, MIN}, {MAX, 0}};
        comparisons("i32", I32, 0x45, numbers, SAME, BELOW_BY_SIGN, ABOVE_BY_SIGN, ZERO_BELOW, ABOVE_BY_SIGN,
            BELOW_BY_SIGN, BOTH_ZERO,
            BELOW, ABOVE, ABOVE, ABOVE);
    }

    private static void comparisons64() {
        CHECKS.sentence("all tests, comparisons");
        // the last two differ only beyond the low 32 bits
        long[][] numbers = {{LOW, LOW}, {LOW, HIGH}, {HIGH, LOW}, {0, 1}, {HIGH, -1}, {-1, 0}, {0, 0}, {LOW, -1}, {1,
            0}, {-1, LOW}, {HIGH, 0},
            {0x100000000L, 0}, {0, 0x100000000L}};
        comparisons("i64", I64, 0x50, numbers, SAME, BELOW_BY_SIGN, ABOVE_BY_SIGN, ZERO_BELOW, ABOVE_BY_SIGN,
            BELOW_BY_SIGN, BOTH_ZERO,
            BELOW, ABOVE, ABOVE, ABOVE, ABOVE, ZERO_BELOW);
    }

    private static void conversions() {
        CHECKS.sentence("i32.wrap_i64, i64.extend_i32_s and _u.");
        WasmMerge wrap = unary(I64, I32, 0xa7);
        WasmMerge signs = unary(I32, I64, 0xac);
        WasmMerge zeros = unary(I32, I64, 0xad);
        long[][] wrapped = {{0, 0}, {MAX, MAX}, {MAX + 1, MIN}, {0xffffffffL, -1}, {0x100000000L, 0}, {MIN, MIN},
            {MIN - 1, MAX}, {LOW, 0}, {HIGH, -1}, {-1, -1}};
        for (long[] row : wrapped) {
            CHECKS.same("wrap of " + row[0], Binary.callWith(wrap, 0, 0, row[0]), row[1]);
        }
        long[][] extended = {{0, 0, 0}, {MAX, MAX, MAX}, {MIN, MIN, 0x80000000L}, {-1, -1, 0xffffffffL}, {1, 1, 1}};
        for (long[] row : extended) {
            CHECKS.same("extend_s of " + row[0], Binary.callWith(signs, 0, 0, row[0]), row[1]);
            CHECKS.same("extend_u of " + row[0], Binary.callWith(zeros, 0, 0, row[0]), row[2]);
        }
    }

    /** Behind each of i32 the bits above are as extend says, whatever way the value goes from there. */
    private static void narrowStaysNarrow() {
        CHECKS.sentence("arithmetic of i32 and i64");
        long[][] rows = {{ADD, MAX, 1, MIN}, {SUB, MIN, 1, MAX}, {MUL, 65536, 65536, 0}, {MUL, MIN, -1, MIN}, {DIV_U,
            -1, 1, -1},
            {REM_U, MIN, -1, MIN}, {SHL, 1, 31, MIN}, {SHR_U, -1, 0, -1}, {SHR_S, MIN, 31, -1}, {ROTL, 1, 31, MIN},
            {ROTR, 1, 1, MIN},
            {10, -1, MIN, MIN}, {11, 0, -1, -1}, {12, MAX, -1, MIN}};
        for (long[] row : rows) {
            byte[] value = Binary.join(Binary.i32((int) row[1]), Binary.i32((int) row[2]),
                Binary.op(0x67 + (int) row[0]));
            byte[][] ways = {value, Binary.join(value, Binary.set(0), Binary.get(0)), Binary.join(value, Binary.op(0x24,
                0), Binary.op(0x23, 0)),
                Binary.join(value, Binary.call(1)), Binary.join(Binary.bytes(0x02, I32), value, Binary.op(0x0c, 0),
                Binary.op(0x0b)),
                Binary.join(value, Binary.i32(0), Binary.i32(1), Binary.op(0x1b)),
                Binary.join(Binary.i32(0), value, Binary.access(0x36, 2, 0), Binary.i32(0), Binary.access(0x28, 2, 0))};
            for (int way = 0; way < ways.length; way++) {
                WasmMerge x = Binary.running(Binary.module(Binary.types(Binary.type(I64, I32), Binary.type(I32, I32)),
                    Binary.functions(0, 1, 0), Binary.memories(Binary.limits(1)), Binary.globals(Binary.global(I32, 1,
                    Binary.i32(0))),
                    Binary.exports(Binary.export("s", 0, 0), Binary.export("u", 0, 2)),
                    Binary.codes(Binary.body(ways[way], Binary.op(0xac)), Binary.body(Binary.get(0)),
                        Binary.body(ways[way], Binary.op(0xad)))));
                String what = row[0] + " of " + row[1] + " and " + row[2] + " by way " + way;
                CHECKS.same(what + ", with its sign", Binary.callWith(x, 0, 0, 0), row[3]);
                CHECKS.same(what + ", without", Binary.callWith(x, 0, 1, 0), row[3] & 0xffffffffL);
            }
        }
    }

    private static void narrowStores() {
        CHECKS.sentence("all loads and stores of i32 and i64");
        // the INSTRUCTION, the value, and the eight bytes that are there then, of which the lowest comes first
        long[][] rows = {{0x3a, 256, 0x7777777777777700L}, {0x3a, 255, 0x77777777777777ffL}, {0x3a, -1,
            0x77777777777777ffL}, {0x3a, MIN, 0x7777777777777700L},
            {0x3b, 65536, 0x7777777777770000L}, {0x3b, -1, 0x777777777777ffffL}, {0x36, -1, 0x77777777ffffffffL}, {0x36,
            MIN, 0x7777777780000000L},
            {0x3c, 256, 0x7777777777777700L}, {0x3d, 65536, 0x7777777777770000L}, {0x3e, 0x100000000L,
            0x7777777700000000L},
            {0x3e, LOW, 0x7777777700000000L}, {0x3e, -1, 0x77777777ffffffffL}, {0x37, LOW, LOW}, {0x37, HIGH, HIGH}};
        for (long[] row : rows) {
            int type = row[0] == 0x36 || row[0] == 0x3a || row[0] == 0x3b ? I32 : I64;
            WasmMerge x = Binary.running(Modules.functionWithMemory(Binary.limits(1), Binary.type(I64, type),
                Binary.i32(8),
                Binary.i64(0x7777777777777777L), Binary.access(0x37, 3, 0), Binary.i32(8), Binary.get(0),
                Binary.access((int) row[0], 0, 0),
                Binary.i32(8), Binary.access(0x29, 3, 0)));
            CHECKS.same("store " + row[0] + " of " + row[1], Binary.callWith(x, 0, 0, row[1]), row[2]);
        }
    }

    private static void narrowLoads() {
        CHECKS.sentence("all loads and stores of i32 and i64");
        long[][] rows = {{0x2c, 127, 127}, {0x2c, 128, -128}, {0x2c, 255, -1}, {0x2d, 128, 128}, {0x2d, 255, 255},
            {0x2e, 32767, 32767},
            {0x2e, 32768, -32768}, {0x2e, 65535, -1}, {0x2f, 32768, 32768}, {0x2f, 65535, 65535}, {0x28, 0x80000000L,
            MIN}, {0x28, MAX, MAX},
            {0x30, 127, 127}, {0x30, 128, -128}, {0x31, 255, 255}, {0x32, 32768, -32768}, {0x33, 65535, 65535}, {0x34,
            0x80000000L, MIN},
            {0x34, MAX, MAX}, {0x35, 0x80000000L, 0x80000000L}, {0x35, 0xffffffffL, 0xffffffffL}, {0x29, LOW, LOW},
            {0x29, -1, -1}};
        for (long[] row : rows) {
            int type = row[0] == 0x28 || row[0] >= 0x2c && row[0] <= 0x2f ? I32 : I64;
            WasmMerge x = Binary.running(Modules.functionWithMemory(Binary.limits(1), Binary.type(type, I64),
                Binary.i32(65528), Binary.get(0),
                Binary.access(0x37, 3, 0), Binary.i32(65528), Binary.access((int) row[0], 0, 0)));
            CHECKS.same("load " + row[0] + " of " + row[1], Binary.callWith(x, 0, 0, row[1]), row[2]);
        }
    }
}
