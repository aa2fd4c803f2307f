/** Promise 4 and Term 1: which INSTRUCTIONS are malformed, not valid, or fine. */
public final class BodyTest {
    private static final Checks CHECKS = new Checks();
    private static final int I32 = Binary.I32;
    private static final int I64 = Binary.I64;
    private static final int NO = Binary.NO;
    private static final byte[] A = Binary.i32(1);
    private static final byte[] B = Binary.i64(1);
    private static final byte[] END = Binary.op(0x0b);
    private static final byte[] ELSE = Binary.op(0x05);
    private static final byte[] DROP = Binary.op(0x1a);
    private static final byte[] SELECT = Binary.op(0x1b);
    private static final byte[] DEAD = Binary.op(0x00);
    private static final byte[] RETURN = Binary.op(0x0f);
    private static final byte[] TYPES = Binary.types(Binary.type(NO, I32, I64), Binary.type(I32, I32, I64),
        Binary.type(I64, I32, I64), Binary.type(NO), Binary.type(I64, I64, I32, I64));
    private static final byte[] GLOBALS = Binary.globals(Binary.global(I32, 0, Binary.i32(0)),
        Binary.global(I64, 1, Binary.i64(0)));

    private BodyTest() {
    }

    public static void main(String[] args) {
        opcodes();
        numeric();
        accesses();
        pages();
        constants();
        variables();
        choices();
        blocks();
        ifs();
        branches();
        tables();
        returns();
        calls();
        dead();
        CHECKS.finish("BodyTest");
    }

    /** A function of i32 and i64 to the result, in a MODULE with a table, a memory and two globals. */
    private static void due(int fault, int result, String what, byte[]... instructions) {
        int type = result == NO ? 0 : result == I32 ? 1 : 2;
        byte[] body = Binary.bodyWith(Binary.bytes(2, 1, I64, 2, I32), Binary.join(instructions));
        CHECKS.same(what, Binary.faultOf(Binary.module(TYPES, Binary.functions(type, 4),
            Binary.tables(Binary.limits(1)), Binary.memories(Binary.limits(1)), GLOBALS,
            Binary.codes(body, Binary.body(B)))), fault);
    }

    /** The same without a table and a memory. */
    private static int bare(byte[]... instructions) {
        return Binary.faultOf(Binary.module(TYPES, Binary.functions(0),
            Binary.codes(Binary.body(Binary.join(instructions)))));
    }

    private static byte[] block(int type, byte[]... inside) {
        return Binary.join(Binary.bytes(0x02, type), Binary.join(inside), END);
    }

    private static byte[] loop(int type, byte[]... inside) {
        return Binary.join(Binary.bytes(0x03, type), Binary.join(inside), END);
    }

    private static byte[] when(int type, byte[]... inside) {
        return Binary.join(Binary.bytes(0x04, type), Binary.join(inside), END);
    }

    private static byte[] br(int label) {
        return Binary.op(0x0c, label);
    }

    private static byte[] brIf(int label) {
        return Binary.op(0x0d, label);
    }

    private static boolean within(int op, int from, int to) {
        return op >= from && op <= to;
    }

    private static boolean isKnown(int op) {
        return within(op, 0x00, 0x05) || within(op, 0x0b, 0x11) || within(op, 0x1a, 0x1b)
            || within(op, 0x20, 0x24) || within(op, 0x28, 0x29) || within(op, 0x2c, 0x37)
            || within(op, 0x3a, 0x42) || within(op, 0x45, 0x5a) || within(op, 0x67, 0x8a)
            || op == 0xa7 || op == 0xac || op == 0xad;
    }

    private static void opcodes() {
        for (int op = 0; op < 256; op++) {
            if (!isKnown(op)) {
                due(1, NO, "instruction " + op, DEAD, Binary.op(op));
                due(1, NO, "instruction " + op + " and zeros", DEAD, Binary.bytes(op, 0, 0, 0, 0));
            }
        }
        due(0, NO, "nothing");
        due(0, NO, "nop", Binary.op(0x01), Binary.op(0x01));
        due(1, NO, "an instruction that is cut", Binary.op(0x20));
    }

    private static void numeric() {
        for (int op = 0x45; op <= 0xad; op++) {
            if (!isKnown(op)) {
                continue;
            }
            boolean wide = within(op, 0x50, 0x5a) || within(op, 0x79, 0x8a) || op == 0xa7;
            boolean one = op == 0x45 || op == 0x50 || within(op, 0x67, 0x69) || within(op, 0x79, 0x7b) || op >= 0xa7;
            int result = within(op, 0x79, 0x8a) || op >= 0xac ? I64 : I32;
            byte[] right = wide ? B : A;
            byte[] wrong = wide ? A : B;
            byte[] it = Binary.op(op);
            String what = "numeric " + op;
            if (one) {
                due(0, result, what, right, it);
                due(2, result, what + " of another type", wrong, it);
                due(2, result, what + " of two", right, right, it);
            } else {
                due(0, result, what, right, right, it);
                due(2, result, what + " of one", right, it);
                due(2, result, what + " and another type", right, wrong, it);
                due(2, result, what + " of another type", wrong, right, it);
            }
            due(2, result, what + " of none", it);
            due(2, result == I32 ? I64 : I32, what + " of the other result", right, one ? Binary.NOTHING : right, it);
        }
    }

    private static int bytesOf(int op) {
        int[] bytes = {4, 8, 0, 0, 1, 1, 2, 2, 1, 1, 2, 2, 4, 4, 4, 8, 0, 0, 1, 2, 1, 2, 4};
        return bytes[op - 0x28];
    }

    private static void accesses() {
        for (int op = 0x28; op <= 0x3e; op++) {
            if (!isKnown(op)) {
                continue;
            }
            int greatest = Integer.numberOfTrailingZeros(bytesOf(op));
            boolean wide = op == 0x29 || within(op, 0x30, 0x35) || op == 0x37 || op >= 0x3c;
            boolean stores = op >= 0x36;
            byte[] value = stores ? wide ? B : A : Binary.NOTHING;
            int result = stores ? NO : wide ? I64 : I32;
            String what = "access " + op;
            for (int align = 0; align <= greatest; align++) {
                due(0, result, what + " by " + align, A, value, Binary.access(op, align, 5));
            }
            for (int align : new int[] {greatest + 1, 4, 31, 32, 33, 64, -1 >>> 1}) {
                due(2, result, what + " by " + align, A, value, Binary.access(op, align, 5));
            }
            due(2, result, what + " by the greatest", A, value, Binary.bytes(op, 0xff, 0xff, 0xff, 0xff, 0x0f, 0));
            due(1, result, what + " by more", A, value, Binary.bytes(op, 0xff, 0xff, 0xff, 0xff, 0x1f, 0));
            due(0, result, what + " of the greatest offset", A, value, Binary.access(op, 0, 0xffffffffL));
            due(1, result, what + " of more", A, value, Binary.access(op, 0, 0x100000000L));
            due(2, result, what + " at an i64", B, value, Binary.access(op, 0, 0));
            due(2, result, what + " at none", value, Binary.access(op, 0, 0));
            if (stores) {
                due(2, NO, what + " of another type", A, wide ? A : B, Binary.access(op, 0, 0));
            } else {
                due(2, wide ? I32 : I64, what + " to another type", A, Binary.access(op, 0, 0));
            }
            CHECKS.same(what + " without memory",
                bare(A, value, Binary.access(op, 0, 0), stores ? Binary.NOTHING : DROP), 2);
        }
    }

    private static void pages() {
        due(0, I32, "memory.size", Binary.bytes(0x3f, 0));
        due(2, I64, "memory.size of i64", Binary.bytes(0x3f, 0));
        due(1, I32, "memory.size of another", Binary.bytes(0x3f, 1));
        due(1, I32, "memory.size in two bytes", Binary.bytes(0x3f, 0x80, 0));
        due(0, I32, "memory.grow", A, Binary.bytes(0x40, 0));
        due(2, I32, "memory.grow of i64", B, Binary.bytes(0x40, 0));
        due(2, I32, "memory.grow of none", Binary.bytes(0x40, 0));
        due(1, I32, "memory.grow of another", A, Binary.bytes(0x40, 1));
        CHECKS.same("memory.size without memory", bare(Binary.bytes(0x3f, 0), DROP), 2);
        CHECKS.same("memory.grow without memory", bare(A, Binary.bytes(0x40, 0), DROP), 2);
        CHECKS.same("memory.size cut", Binary.faultOf(Binary.module(TYPES, Binary.functions(3),
            Binary.codes(Binary.bytes(2, 0, 0x3f)))), 1);
    }

    private static void constants() {
        due(0, I32, "i32", A);
        due(2, I64, "i32 for i64", A);
        due(0, I64, "i64", B);
        due(2, I32, "i64 for i32", B);
        due(2, NO, "one too many", A);
        due(2, I32, "none");
        due(2, I32, "two", A, A);
        due(1, I32, "i32 too large", Binary.bytes(0x41, 0xff, 0xff, 0xff, 0xff, 0x0f));
    }

    private static void variables() {
        int[] types = {I32, I64, I64, I32, I32};
        for (int x = 0; x < 5; x++) {
            byte[] right = types[x] == I32 ? A : B;
            byte[] wrong = types[x] == I32 ? B : A;
            due(0, types[x], "local.get " + x, Binary.get(x));
            due(2, types[x] == I32 ? I64 : I32, "local.get " + x, Binary.get(x));
            due(0, NO, "local.set " + x, right, Binary.set(x));
            due(2, NO, "local.set " + x, wrong, Binary.set(x));
            due(2, NO, "local.set " + x + " of none", Binary.set(x));
            due(0, types[x], "local.tee " + x, right, Binary.op(0x22, x));
            due(2, types[x], "local.tee " + x, wrong, Binary.op(0x22, x));
            due(2, NO, "local.tee " + x + " stays", right, Binary.op(0x22, x));
        }
        for (int op = 0x20; op <= 0x22; op++) {
            due(2, NO, "no such local", DEAD, Binary.op(op, 5));
            due(2, NO, "no such local", DEAD, Binary.op(op, 0xffffffffL));
        }
        due(0, I32, "global.get", Binary.op(0x23, 0));
        due(2, I64, "global.get", Binary.op(0x23, 0));
        due(0, I64, "global.get of one that can be set", Binary.op(0x23, 1));
        due(2, I64, "no such global", Binary.op(0x23, 2));
        due(2, NO, "global.set of one that cannot be", A, Binary.op(0x24, 0));
        due(0, NO, "global.set", B, Binary.op(0x24, 1));
        due(2, NO, "global.set", A, Binary.op(0x24, 1));
        due(2, NO, "global.set of none", Binary.op(0x24, 1));
        due(2, NO, "global.set of no such", B, Binary.op(0x24, 2));
        due(2, NO, "global.set of the greatest", DEAD, Binary.op(0x24, 0xffffffffL));
    }

    private static void choices() {
        due(0, NO, "drop", A, DROP);
        due(0, NO, "drop", B, DROP);
        due(2, NO, "drop of none", DROP);
        due(0, I32, "select", A, A, A, SELECT);
        due(0, I64, "select", B, B, A, SELECT);
        due(2, I64, "select by i64", B, B, B, SELECT);
        due(2, I32, "select of two types", A, B, A, SELECT);
        due(2, I64, "select of two types", A, B, A, SELECT);
        due(2, I32, "select of one", A, A, SELECT);
        due(2, I64, "select to another type", A, A, A, SELECT);
        due(1, I32, "select with types", A, A, A, Binary.bytes(0x1c, 1, I32));
    }

    private static void blocks() {
        for (int op : new int[] {0x02, 0x03}) {
            due(0, NO, "block", Binary.bytes(op, NO), END);
            due(0, I32, "block of i32", Binary.bytes(op, I32), A, END);
            due(0, I64, "block of i64", Binary.bytes(op, I64), B, END);
            due(2, I32, "block of another", Binary.bytes(op, I32), B, END);
            due(2, I32, "block of none", Binary.bytes(op, I32), END);
            due(2, I32, "block of two", Binary.bytes(op, I32), A, A, END);
            due(2, NO, "block of one too many", Binary.bytes(op, NO), A, END);
            due(2, I32, "block takes from outside", A, Binary.bytes(op, I32), END);
            due(2, NO, "drop from outside", A, Binary.bytes(op, NO), DROP, END);
            due(0, I32, "block above others", A, Binary.bytes(op, NO), END);
            for (int type : new int[] {0x00, 0x01, 0x7d, 0x7c, 0x41, 0x70, 0xff}) {
                due(1, NO, "block type " + type, DEAD, Binary.bytes(op, type), END);
            }
            due(1, NO, "block without end", Binary.bytes(op, NO));
            due(1, NO, "else in a block", Binary.bytes(op, NO), ELSE, END);
        }
        due(1, NO, "an end too many", END);
        due(1, NO, "else in a function", ELSE);
    }

    private static void ifs() {
        due(0, NO, "if", A, when(NO));
        due(0, NO, "if else", A, when(NO, ELSE));
        due(0, I32, "if of i32", A, when(I32, A, ELSE, A));
        due(0, I64, "if of i64", A, when(I64, B, ELSE, B));
        due(2, I32, "if of i32 without else", A, when(I32, A));
        due(2, I32, "if of i32 without else, dead", A, when(I32, DEAD));
        due(2, I32, "if of i32, another behind else", A, when(I32, A, ELSE, B));
        due(2, I32, "if of i32, another before else", A, when(I32, B, ELSE, A));
        due(2, I32, "if of i32, none behind else", A, when(I32, A, ELSE));
        due(2, I32, "if of i32, none before else", A, when(I32, ELSE, A));
        due(2, NO, "if of none, one before else", A, when(NO, A, ELSE));
        due(2, NO, "if of none, one behind else", A, when(NO, ELSE, A));
        due(2, NO, "if by i64", B, when(NO));
        due(2, NO, "if by none", when(NO));
        due(0, I32, "if that is dead before else", A, when(I32, DEAD, ELSE, A));
        due(2, I32, "else is not dead by that", A, when(I32, DEAD, ELSE));
        due(0, I32, "if that is dead behind else", A, when(I32, A, ELSE, DEAD));
        due(1, NO, "two elses", A, when(NO, ELSE, ELSE));
        due(1, NO, "two elses, the second in no if", A, when(NO, ELSE), ELSE);
        due(0, NO, "an else in each", A, when(NO, A, when(NO, ELSE), ELSE, A, when(NO, ELSE)));
        due(1, NO, "else behind a block in it", A, when(NO, Binary.bytes(0x02, NO), ELSE, END));
        due(1, NO, "if type", DEAD, Binary.bytes(0x04, 0x7d), END);
        due(2, NO, "else takes from outside", A, A, when(NO, ELSE, DROP));
    }

    private static void branches() {
        due(0, NO, "br", br(0));
        due(2, NO, "br outside", br(1));
        due(2, NO, "br to the greatest", Binary.op(0x0c, 0xffffffffL));
        due(0, I32, "br with a value", A, br(0));
        due(2, I32, "br with another value", B, br(0));
        due(2, I32, "br without a value", br(0));
        due(0, I32, "br with more below", B, B, A, br(0));
        due(0, I32, "br to a block", block(I32, A, br(0)));
        due(0, I32, "br out of two", block(I64, A, br(1)), DROP, A);
        due(2, I32, "br out of two with another", block(I64, B, br(1)), DROP, A);
        due(0, NO, "br to a loop", loop(NO, br(0)));
        due(0, I32, "br to a loop of i32", loop(I32, br(0)));
        due(2, I32, "br_if to a loop of i32 gives nothing", loop(I32, A, brIf(0)));
        due(0, NO, "br_if", A, brIf(0));
        due(2, NO, "br_if by i64", B, brIf(0));
        due(2, NO, "br_if by none", brIf(0));
        due(2, NO, "br_if outside", A, brIf(1));
        due(0, I32, "br_if with a value", A, A, brIf(0));
        due(2, I32, "br_if without a value", A, brIf(0));
        due(2, I32, "br_if with another value", B, A, brIf(0));
        due(0, I32, "br_if out of a block", block(NO, A, A, brIf(1), DROP), A);
        due(2, I32, "br_if with a value from outside", A, block(NO, A, brIf(1)));
        due(0, NO, "br in an if", A, when(NO, br(0), ELSE, br(1)));
        due(2, NO, "behind br a type is still seen", br(0), A, Binary.op(0x50), DROP);
    }

    private static void tables() {
        due(0, NO, "br_table", A, Binary.labels(0));
        due(0, NO, "br_table of some", block(NO, A, Binary.labels(0, 1, 0, 1)));
        due(2, NO, "br_table by i64", B, Binary.labels(0));
        due(2, NO, "br_table by none", Binary.labels(0));
        due(2, NO, "br_table outside", A, Binary.labels(1));
        due(2, NO, "br_table, one outside", A, Binary.labels(0, 0, 1));
        due(0, I32, "br_table with a value", A, A, Binary.labels(0, 0));
        due(2, I32, "br_table without a value", A, Binary.labels(0, 0));
        due(2, I32, "br_table with another value", B, A, Binary.labels(0, 0));
        due(2, I32, "br_table of two types", block(I64, B, A, Binary.labels(0, 1)), DROP, A);
        due(2, I32, "br_table of a value and none", block(NO, A, A, Binary.labels(1, 0)), A);
        due(2, I32, "br_table of none and a value", block(NO, A, A, Binary.labels(0, 1)), A);
        due(2, I32, "br_table of two types, dead", block(I64, DEAD, Binary.labels(0, 1)), DROP, A);
        due(0, I32, "br_table of one type in two", block(I32, A, A, Binary.labels(0, 1, 0)));
        due(0, I64, "br_table to a loop and a block", block(NO, loop(NO, A, Binary.labels(0, 1, 0, 1))), B);
        due(1, NO, "br_table with more labels than bytes", A, Binary.bytes(0x0e, 90, 0));
        due(1, NO, "br_table without its last", Binary.bytes(0x02, NO), A, Binary.bytes(0x0e, 2, 0, 0));
    }

    private static void returns() {
        due(0, NO, "return", RETURN);
        due(0, I32, "return with a value", A, RETURN);
        due(2, I32, "return without a value", RETURN);
        due(2, I32, "return with another value", B, RETURN);
        due(0, NO, "return with more below", A, B, RETURN);
        due(0, I64, "return in blocks", block(NO, loop(NO, B, RETURN)), B);
        due(2, I64, "return in a block with a value from outside", B, block(NO, RETURN));
    }

    private static void calls() {
        byte[] all = Binary.join(B, A, B);
        due(0, I64, "call", all, Binary.call(1));
        due(2, I32, "call of another result", all, Binary.call(1));
        due(2, I64, "call with too few", A, B, Binary.call(1));
        due(2, I64, "call with others", A, A, B, Binary.call(1));
        due(2, I64, "call with others", B, B, B, Binary.call(1));
        due(2, I64, "call with others", B, A, A, Binary.call(1));
        due(2, I64, "call of none", DEAD, Binary.call(2));
        due(2, I64, "call of the greatest", DEAD, Binary.op(0x10, 0xffffffffL));
        due(0, I64, "call itself", A, B, Binary.call(0));
        due(0, I64, "call_indirect", all, A, Binary.indirect(4));
        due(0, NO, "call_indirect", A, Binary.indirect(3));
        due(2, I64, "call_indirect at i64", all, B, Binary.indirect(4));
        due(2, I64, "call_indirect at none", all, Binary.indirect(4));
        due(2, I64, "call_indirect of no type", DEAD, Binary.indirect(5));
        due(2, I64, "call_indirect of others", A, A, B, A, Binary.indirect(4));
        due(2, I32, "call_indirect of another result", all, A, Binary.indirect(4));
        due(1, NO, "call_indirect of another table", A, Binary.bytes(0x11, 3, 1));
        due(1, NO, "call_indirect of a table in two bytes", A, Binary.bytes(0x11, 3, 0x80, 0));
        CHECKS.same("call_indirect without a table", bare(A, Binary.indirect(3)), 2);
    }

    /** Behind what never goes on the stack has what is asked of it. */
    private static void dead() {
        byte[][] enders = {DEAD, br(0), RETURN, Binary.join(A, Binary.labels(0))};
        for (byte[] ender : enders) {
            due(0, NO, "dead", ender);
            due(0, NO, "dead drop", ender, DROP, DROP);
            due(0, NO, "dead add", ender, Binary.op(0x6a), DROP);
            due(2, NO, "dead add stays", ender, Binary.op(0x6a));
            due(2, NO, "dead add of another", ender, B, Binary.op(0x6a), DROP);
            due(0, NO, "dead add of its own", ender, A, Binary.op(0x6a), DROP);
            due(0, NO, "dead select", ender, SELECT, DROP);
            due(0, NO, "dead select of i64", ender, B, A, SELECT, Binary.op(0x50), DROP);
            due(2, NO, "dead select of i64 for i32", ender, B, A, SELECT, Binary.op(0x45), DROP);
            due(0, NO, "dead select of any", ender, SELECT, Binary.op(0x50), DROP);
            due(2, NO, "dead select of two types", ender, A, B, A, SELECT, DROP);
            due(2, NO, "dead and one too many", ender, A);
            due(2, NO, "dead in a block only", block(NO, ender), DROP);
            due(0, NO, "dead block", ender, block(I32, DEAD), DROP);
            due(2, NO, "dead block must give", ender, block(I32), DROP);
            due(0, NO, "dead br_if", ender, brIf(0));
            due(0, NO, "dead local.tee", ender, Binary.op(0x22, 1), Binary.set(1));
            due(2, NO, "dead local.tee of another", ender, Binary.op(0x22, 1), Binary.set(0));
        }
        due(2, NO, "dead in another block only", block(NO, DEAD), block(NO, DROP));
        due(2, NO, "dead in another if only", A, when(NO, DEAD), A, when(NO, ELSE, DROP));
        CHECKS.same("dead in another function only", Binary.faultOf(Binary.module(TYPES, Binary.functions(3, 3),
            Binary.codes(Binary.body(DEAD), Binary.body(DROP)))), 2);
        CHECKS.same("nothing stays of another function", Binary.faultOf(Binary.module(TYPES, Binary.functions(3, 3),
            Binary.codes(Binary.body(A, RETURN), Binary.body(DROP)))), 2);
        due(0, I32, "dead gives", DEAD);
        due(0, I32, "dead gives its own", DEAD, A);
        due(2, I32, "dead gives another", DEAD, B);
        due(2, I32, "dead gives two", DEAD, A, A);
        due(0, I32, "dead br_if with a value", DEAD, brIf(0));
        due(2, I64, "dead br_if makes the type known", DEAD, block(I32, DEAD, brIf(0), Binary.op(0xac)), DROP, B);
    }
}
