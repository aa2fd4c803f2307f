import java.util.ArrayList;
import java.util.List;
import java.util.Random;

/** Makes the body of a function of a plan whose other parts stand already; whatever it makes is valid. */
final class Bodies {
    private static final int I32 = Binary.I32;
    private static final int I64 = Binary.I64;
    private static final int NO = Binary.NO;
    private static final long[] NUMBERS = {0, 0, 1, 1, 2, 3, 4, 7, 8, 31, 32, 64, -1, -2, -8, 255, 256, 65528, 65532, 65535,
        65536, 131064, 131071, Integer.MAX_VALUE, Integer.MIN_VALUE, 0xffffffffL, 0x100000000L, Long.MAX_VALUE,
        Long.MIN_VALUE, 0x123456789abcdefL};
    private static final int[] NARROW_LOADS = {0x28, 0x2c, 0x2d, 0x2e, 0x2f};
    private static final int[] WIDE_LOADS = {0x29, 0x30, 0x31, 0x32, 0x33, 0x34, 0x35};
    private static final int[] NARROW_STORES = {0x36, 0x3a, 0x3b};
    private static final int[] WIDE_STORES = {0x37, 0x3c, 0x3d, 0x3e};

    /** What a branch to it carries; a loop takes nothing. */
    private record Label(int carries) {
    }

    private final Random random;
    private final Plan plan;
    private final int function;
    private final Plan.Kind kind;
    private final List<Integer> locals = new ArrayList<>();
    private final List<Label> labels = new ArrayList<>();
    private int budget;

    Bodies(Random random, Plan plan, int function, List<Integer> own) {
        this.random = random;
        this.plan = plan;
        this.function = function;
        kind = plan.kindOf(function);
        locals.addAll(kind.parameters());
        locals.addAll(own);
        budget = 4 + random.nextInt(22);
    }

    static long number(Random random) {
        return NUMBERS[random.nextInt(NUMBERS.length)];
    }

    List<Code> body() {
        labels.add(new Label(kind.result()));
        return block(kind.result());
    }

    private boolean chance(int percent) {
        return random.nextInt(100) < percent;
    }

    private int anyType() {
        return chance(60) ? I32 : I64;
    }

    private List<Code> block(int result) {
        List<Code> all = new ArrayList<>();
        for (int i = random.nextInt(4); i > 0 && budget > 0; i--) {
            all.add(statement());
        }
        if (result != NO) {
            all.add(value(result));
        }
        return all;
    }

    private List<Code> inside(int result, int carries) {
        labels.add(new Label(carries));
        List<Code> all = block(result);
        labels.remove(labels.size() - 1);
        return all;
    }

    private int carried(int label) {
        return labels.get(labels.size() - 1 - label).carries();
    }

    private Code statement() {
        budget--;
        switch (random.nextInt(16)) {
            case 0: return Code.block(0x02, NO, inside(NO, NO));
            case 1: return counted();
            case 2: return Code.choice(value(I32), NO, inside(NO, NO), chance(50) ? null : inside(NO, NO));
            case 3: return branchIf();
            case 4: return chance(40) ? leaving() : Code.plain(0x01);
            case 5: case 6: return setGlobal();
            case 7: case 8: return store();
            case 9: case 10: case 11: return called(NO);
            case 12: return Code.plain(0x1a, value(anyType()));
            case 13: return chance(10) ? Code.block(0x03, NO, inside(NO, NO)) : Code.plain(0x01);
            default: return setLocal(0x21, random.nextInt(locals.size()));
        }
    }

    /** A loop that ends, if what is in it lets its counter alone; a block holds it and what sets the counter. */
    private Code counted() {
        int counter = locals.lastIndexOf(I32);
        labels.add(new Label(NO));
        List<Code> body = inside(NO, NO);
        labels.remove(labels.size() - 1);
        Code less = Code.plain(0x6b, Code.indexed(0x20, counter), Code.constant(I32, 1));
        body.add(Code.indexed(0x0d, 0, Code.indexed(0x22, counter, less)));
        int turns = 1 + random.nextInt(chance(10) ? 3000 : 20);
        return Code.block(0x02, NO, List.of(Code.indexed(0x21, counter, Code.constant(I32, turns)),
            Code.block(0x03, NO, body)));
    }

    private Code branchIf() {
        int label = random.nextInt(labels.size());
        if (carried(label) == NO) {
            return Code.indexed(0x0d, label, value(I32));
        }
        return Code.plain(0x1a, Code.indexed(0x0d, label, value(carried(label)), value(I32)));
    }

    /** What never goes on behind itself. */
    private Code leaving() {
        int label = random.nextInt(labels.size());
        int carries = carried(label);
        switch (random.nextInt(5)) {
            case 0: return chance(30) ? Code.plain(0x00) : Code.plain(0x01);
            case 1: return branchTable(label, carries);
            case 2: return kind.result() == NO ? Code.plain(0x0f) : Code.plain(0x0f, value(kind.result()));
            default: return carries == NO ? Code.indexed(0x0c, label) : Code.indexed(0x0c, label, value(carries));
        }
    }

    private Code branchTable(int label, int carries) {
        List<Integer> alike = new ArrayList<>();
        for (int i = 0; i < labels.size(); i++) {
            if (carried(i) == carries) {
                alike.add(i);
            }
        }
        int[] some = new int[1 + random.nextInt(4)];
        for (int i = 0; i < some.length; i++) {
            some[i] = i == 0 ? label : alike.get(random.nextInt(alike.size()));
        }
        return carries == NO ? Code.branches(some, value(I32)) : Code.branches(some, value(carries), value(I32));
    }

    private Code setLocal(int op, int local) {
        return Code.indexed(op, local, value(locals.get(local)));
    }

    private Code setGlobal() {
        for (int turn = 0; turn < 4 && plan.many(3) > 0; turn++) {
            int global = random.nextInt(plan.many(3));
            if (plan.mutableGlobal(global)) {
                return Code.indexed(0x24, global, value(plan.typeOfGlobal(global)));
            }
        }
        return Code.plain(0x01);
    }

    private Code address() {
        return chance(70) ? Code.constant(I32, random.nextInt(40)) : value(I32);
    }

    private long offset() {
        return chance(80) ? random.nextInt(16) : number(random) & 0xffffffffL;
    }

    private Code store() {
        if (plan.many(2) == 0) {
            return Code.plain(0x01);
        }
        int type = anyType();
        int[] ops = type == I32 ? NARROW_STORES : WIDE_STORES;
        return Code.access(ops[random.nextInt(ops.length)], 0, offset(), address(), value(type));
    }

    /** A call that gives this, or nop or a constant if there is none. */
    private Code called(int result) {
        Code[] none = new Code[0];
        for (int turn = 0; turn < 6; turn++) {
            int other = random.nextInt(plan.many(0));
            boolean deeper = other >= plan.brought(0).size() && other >= function;
            if (plan.kindOf(other).result() == result && (!deeper || chance(8))) {
                return Code.indexed(0x10, other, values(plan.kindOf(other)).toArray(none));
            }
            int type = random.nextInt(plan.types.size());
            if (plan.many(1) > 0 && plan.types.get(type).result() == result && chance(40)) {
                List<Code> all = values(plan.types.get(type));
                all.add(chance(90) ? Code.constant(I32, random.nextInt(6)) : value(I32));
                return Code.indirect(type, all.toArray(none));
            }
        }
        return result == NO ? Code.plain(0x01) : simple(result);
    }

    private List<Code> values(Plan.Kind asked) {
        List<Code> all = new ArrayList<>();
        for (int type : asked.parameters()) {
            all.add(value(type));
        }
        return all;
    }

    private Code simple(int type) {
        int local = random.nextInt(locals.size());
        return locals.get(local) == type ? Code.indexed(0x20, local) : Code.constant(type, number(random));
    }

    private Code value(int type) {
        budget--;
        if (budget <= 0) {
            return simple(type);
        }
        switch (random.nextInt(20)) {
            case 0: return Code.block(0x02, type, inside(type, type));
            case 1: return Code.choice(value(I32), type, inside(type, type), inside(type, type));
            case 2: return Code.block(0x03, type, inside(type, NO));
            case 3: case 4: return called(type);
            case 5: return globalOf(type);
            case 6: return load(type);
            case 7: return Code.plain(0x1b, value(type), value(type), value(I32));
            case 8: return tee(type);
            case 9: return pages(type);
            case 10: return branchIfOf(type);
            case 11: return chance(25) ? dead(type) : simple(type);
            case 12: case 13: case 14: case 15: return numeric(type);
            default: return simple(type);
        }
    }

    private Code globalOf(int type) {
        for (int turn = 0; turn < 4 && plan.many(3) > 0; turn++) {
            int global = random.nextInt(plan.many(3));
            if (plan.typeOfGlobal(global) == type) {
                return Code.indexed(0x23, global);
            }
        }
        return simple(type);
    }

    private Code load(int type) {
        if (plan.many(2) == 0) {
            return simple(type);
        }
        int[] ops = type == I32 ? NARROW_LOADS : WIDE_LOADS;
        return Code.access(ops[random.nextInt(ops.length)], 0, offset(), address());
    }

    private Code tee(int type) {
        int local = random.nextInt(locals.size());
        return locals.get(local) == type ? setLocal(0x22, local) : simple(type);
    }

    private Code pages(int type) {
        if (plan.many(2) == 0 || type != I32) {
            return simple(type);
        }
        return chance(50) ? Code.pages(0x3f) : Code.pages(0x40, chance(50) ? Code.constant(I32, 1) : value(I32));
    }

    private Code branchIfOf(int type) {
        int label = random.nextInt(labels.size());
        return carried(label) == type ? Code.indexed(0x0d, label, value(type), value(I32)) : simple(type);
    }

    /** Behind what never goes on any type is right; nop does go on, so it stands in a block that gives a value. */
    private Code dead(int type) {
        Code leaving = leaving();
        return leaving.op == 0x01 ? simple(type) : leaving;
    }

    private Code numeric(int type) {
        if (type == I64) {
            if (chance(20)) {
                return Code.plain(chance(50) ? 0xac : 0xad, value(I32));
            }
            int op = 0x79 + random.nextInt(18);
            return op < 0x7c ? Code.plain(op, value(I64)) : Code.plain(op, value(I64), value(I64));
        }
        switch (random.nextInt(4)) {
            case 0: return chance(50) ? Code.plain(0xa7, value(I64)) : Code.plain(0x50, value(I64));
            case 1: return Code.plain(0x46 + random.nextInt(10), value(I32), value(I32));
            case 2: return Code.plain(0x51 + random.nextInt(10), value(I64), value(I64));
            default:
                int op = 0x67 + random.nextInt(18);
                return op < 0x6a ? Code.plain(op, value(I32)) : Code.plain(op, value(I32), value(I32));
        }
    }
}
