import java.util.ArrayList;
import java.util.List;

/**
 * Term 3: which exception comes first, and that what throws changes nothing. Two objects go the same way; one of them
 * makes calls that throw; then all that can be heard of both must be the same.
 */
public final class UnchangedTest {
    private static final Checks CHECKS = new Checks();
    private static final int I32 = Binary.I32;
    private static final int I64 = Binary.I64;
    private static final int NO = Binary.NO;
    private static final Class<IllegalStateException> STATE = IllegalStateException.class;
    private static final Class<IllegalArgumentException> ARGUMENT = IllegalArgumentException.class;
    private static final Class<IndexOutOfBoundsException> INDEX = IndexOutOfBoundsException.class;
    private static final Class<UnsupportedOperationException> FAULT = UnsupportedOperationException.class;
    private static final Class<ArithmeticException> TRAP = ArithmeticException.class;
    private static final byte[] NULLARY = Binary.type(NO);
    private static final byte[] ZERO = Binary.i32(0);
    private static final byte[] EMPTY = Modules.EMPTY;
    private static final byte[] UNFIT = Modules.passing("z", "g", "g", 3, Binary.bytes(I32, 0));

    private UnchangedTest() {
    }

    /** What an object goes through. */
    private interface Way {
        void go(WasmMerge x);
    }

    public static void main(String[] args) {
        order();
        nothing();
        addWithFault();
        mergeWithFault();
        beginWithTrap();
        callWithTrap();
        CHECKS.finish("UnchangedTest");
    }

    private static void order() {
        CHECKS.sentence("Of several exceptions the one that a call names first is thrown");
        WasmMerge x = Binary.merged(rich());
        CHECKS.throwing("call: no RUN, no export", () -> x.call(9, 9), STATE);
        CHECKS.throwing("call: no RUN, no function", () -> x.call(0, 1), STATE);
        CHECKS.throwing("call: no RUN, no arguments", () -> x.call(0, 0), STATE);
        CHECKS.throwing("call: no RUN, a TRAP", () -> x.call(0, 4), STATE);
        CHECKS.throwing("global: no RUN, no export", () -> x.global(-1, -1), STATE);
        CHECKS.throwing("global: no RUN, no global", () -> x.global(0, 0), STATE);
        CHECKS.throwing("memory: no RUN, no such byte", () -> x.memory(-1), STATE);
        x.begin();
        for (int n = 0; n < 6; n++) {
            x.argument(n);
        }
        CHECKS.throwing("call: no MODULE, too many arguments", () -> x.call(1, 0), INDEX);
        CHECKS.throwing("call: no export, too many arguments", () -> x.call(0, 99), INDEX);
        CHECKS.throwing("call: no function, too many arguments", () -> x.call(0, 1), ARGUMENT);
        CHECKS.throwing("call: too many arguments, a TRAP", () -> x.call(0, 4), ARGUMENT);
        CHECKS.throwing("told: no MODULE, no such what", () -> x.told(1, -1), INDEX);
        x.clear();
        CHECKS.throwing("count: no MERGE, no such what", () -> x.count(-1), STATE);
        CHECKS.throwing("told: no MODULES, no such what", () -> x.told(0, 8), INDEX);
        for (byte[] module : new byte[][] {Modules.MALFORMED, Modules.NOT_VALID, Modules.TOO_MUCH, Binary.NOTHING}) {
            WasmMerge six = Binary.with(EMPTY, EMPTY, EMPTY, EMPTY, EMPTY, EMPTY);
            Binary.feed(six, module);
            CHECKS.throwing("add: six MODULES, a FAULT", six::add, STATE);
        }
        WasmMerge trapping = Binary.with(Binary.module(Binary.types(NULLARY), Binary.functions(0), Binary.start(0),
            Binary.codes(Binary.body(Binary.op(0)))));
        CHECKS.throwing("begin: no MERGE, a TRAP", trapping::begin, STATE);
    }

    /**
     * Export 0 is of two parameters and tells the HOST, 1 to 3 are a table, a memory and a global, 4 traps, 5 is a global,
     * 6 writes to all that can be written, 7 calls element 0.
     */
    private static byte[] rich() {
        return Binary.module(Binary.types(NULLARY, Binary.type(I64, I32, I64)),
            Binary.imports(Binary.imported("h", "h", 0, Binary.u32(1))), Binary.functions(1, 0, 0, 0),
            Binary.tables(Binary.limits(2)), Binary.memories(Binary.limits(1)),
            Binary.globals(Binary.global(I32, 1, Binary.i32(5)), Binary.global(I64, 1, Binary.i64(6))),
            Binary.exports(Binary.export("f", 0, 1), Binary.export("t", 1, 0), Binary.export("m", 2, 0),
            Binary.export("g", 3, 0),
                Binary.export("u", 0, 2), Binary.export("l", 3, 1), Binary.export("w", 0, 3), Binary.export("i", 0, 4)),
            Binary.elements(Binary.element(ZERO, 3)),
            Binary.codes(Binary.body(Binary.get(0), Binary.get(1), Binary.call(0), Binary.op(0x1a), Binary.get(1)),
                Binary.body(writes(), Binary.op(0)), Binary.body(writes()), Binary.body(ZERO, Binary.indirect(0))),
            Binary.data(Binary.datum(ZERO, 11, 12, 13)));
    }

    private static byte[] writes() {
        return Binary.join(Binary.op(0x23, 0), Binary.i32(1), Binary.op(0x6a), Binary.op(0x24, 0), Binary.i64(-9),
            Binary.op(0x24, 1),
            ZERO, ZERO, Binary.access(0x2d, 0, 1), Binary.i32(3), Binary.op(0x6a), Binary.access(0x3a, 0, 1),
            Binary.i32(1),
            Binary.bytes(0x40, 0), Binary.op(0x1a), Binary.i32(70), Binary.i64(71), Binary.call(0), Binary.op(0x1a));
    }

    private static String heard(Checks.Call call) {
        try {
            return call.run() + " ";
        } catch (RuntimeException e) {
            return e.getClass().getSimpleName() + " ";
        }
    }

    /** All that can be heard of an object; arguments, THE ROW and OUTPUT come last, as that changes them. */
    private static String all(WasmMerge x) {
        StringBuilder text = new StringBuilder();
        text.append(x.fault()).append(' ').append(x.trap()).append(" told ");
        for (int k = 0; k < 3; k++) {
            for (int what = 0; what < 19; what++) {
                int module = k;
                int asked = what;
                text.append(heard(() -> x.told(module, asked)));
            }
        }
        text.append("count ");
        for (int what = 0; what < 8; what++) {
            int asked = what;
            text.append(heard(() -> x.count(asked)));
        }
        text.append(heard(x::check)).append("memory ");
        for (int at : new int[] {0, 1, 2, 65535, 65536}) {
            text.append(heard(() -> x.memory(at)));
        }
        text.append("global ").append(heard(() -> x.global(0, 3))).append(heard(() -> x.global(0, 5))).append("take ");
        for (int i = 0; i < 8; i++) {
            text.append(heard(x::take));
        }
        // with two arguments export 0 tells them, with others it is refused; then all are counted
        text.append("call ").append(heard(() -> x.call(0,
            0))).append(heard(x::take)).append(heard(x::take)).append(heard(x::take));
        text.append(heard(() -> x.argument(-7))).append(heard(() -> x.argument(-8)));
        text.append("run ").append(heard(() -> x.call(0, 7))).append(heard(x::trap));
        text.append("row ").append(heard(() -> x.feed(1, 2, 3, 4,
            5))).append(heard(x::add)).append(x.fault()).append(' ');
        return text.append(heard(x::clear)).toString();
    }

    /** Ways to the states in which calls are made. */
    private static List<Way> states() {
        List<Way> all = new ArrayList<>();
        all.add(x -> { });
        all.add(x -> Binary.feed(x, rich()));
        all.add(x -> add(x, rich()));
        all.add(x -> {
            add(x, rich());
            x.merge();
        });
        all.add(x -> {
            add(x, rich());
            x.merge();
            x.begin();
        });
        all.add(x -> {
            add(x, rich());
            x.merge();
            x.begin();
            x.call(0, 6);
            x.argument(3);
            x.argument(4);
            Binary.feed(x, EMPTY);
        });
        all.add(x -> {
            add(x, rich());
            x.merge();
            x.begin();
            heard(() -> x.call(0, 4));
            for (int n = 0; n < 6; n++) {
                x.argument(n);
            }
            for (int i = 0; i < 200; i++) {
                x.feed(i, 0, 0, 0, 0);
            }
        });
        all.add(x -> {
            for (int k = 0; k < 6; k++) {
                add(x, k == 0 ? rich() : EMPTY);
            }
            x.merge();
            x.begin();
            x.argument(1);
            Binary.feed(x, Modules.MALFORMED);
        });
        all.add(x -> {
            add(x, rich());
            add(x, UNFIT);
            heard(x::merge);
            x.argument(1);
            x.argument(2);
        });
        return all;
    }

    private static void add(WasmMerge x, byte[] module) {
        Binary.feed(x, module);
        x.add();
    }

    /** Calls that change nothing if they throw what they may throw for a state or an argument. */
    private static void throwAll(WasmMerge x, List<String> thrown) {
        int[] wrong = {Integer.MIN_VALUE, -1, 4001, Integer.MAX_VALUE};
        for (int n : wrong) {
            note(thrown, "end", () -> x.end(n));
            note(thrown, "call", () -> x.call(n, 0));
            note(thrown, "call", () -> x.call(0, n));
            note(thrown, "global", () -> x.global(n, 0));
            note(thrown, "global", () -> x.global(0, n));
            note(thrown, "told", () -> x.told(n, 0));
            note(thrown, "told", () -> x.told(0, n));
            note(thrown, "count", () -> x.count(n));
        }
        for (int j = 1; j < 4; j++) {
            int asked = j;
            note(thrown, "call", () -> x.call(0, asked));
            note(thrown, "global", () -> x.global(0, asked == 3 ? 0 : asked));
        }
    }

    private static void note(List<String> thrown, String name, Checks.Call call) {
        try {
            call.run();
            CHECKS.same(name + " throws", 0, 1);
        } catch (RuntimeException e) {
            thrown.add(name + " " + e.getClass().getSimpleName());
        }
    }

    private static void same(String what, Way before, Way between) {
        WasmMerge left = new WasmMerge();
        WasmMerge right = new WasmMerge();
        before.go(left);
        before.go(right);
        between.go(left);
        CHECKS.sameText(what, all(left), all(right));
    }

    private static void nothing() {
        CHECKS.sentence("what throws changes nothing");
        List<Way> states = states();
        List<String> thrown = new ArrayList<>();
        for (int i = 0; i < states.size(); i++) {
            same("state " + i, states.get(i), x -> throwAll(x, thrown));
        }
        String[] named = {"end IllegalArgumentException", "call IllegalStateException",
            "call IndexOutOfBoundsException",
            "call IllegalArgumentException", "global IllegalStateException", "global IndexOutOfBoundsException",
            "global IllegalArgumentException", "told IndexOutOfBoundsException", "told IllegalArgumentException",
            "count IllegalStateException", "count IllegalArgumentException"};
        for (String one : named) {
            CHECKS.same(one + " was among them", thrown.contains(one) ? 1 : 0, 1);
        }
        Way run = states.get(5);
        Way six = states.get(7);
        Way full = states.get(6);
        same("call with too few arguments", states.get(4), x -> CHECKS.throwing("call", () -> x.call(0, 0), ARGUMENT));
        same("call with too many arguments", run, x -> CHECKS.throwing("call", () -> x.call(0, 4), ARGUMENT));
        same("a seventh argument", full, x -> CHECKS.throwing("argument", () -> x.argument(9), STATE));
        same("feed beyond 4000", full, x -> CHECKS.throwing("feed", () -> x.feed(9, 9, 9, 9, 9), STATE));
        same("add to six", six, x -> CHECKS.throwing("add", x::add, STATE));
        same("end beyond THE ROW", run, x -> CHECKS.throwing("end", () -> x.end(9), ARGUMENT));
        for (int i = 0; i < 2; i++) {
            same("merge without MODULES", states.get(i), x -> {
                x.argument(1);
                CHECKS.throwing("merge", x::merge, STATE);
                CHECKS.answers("its argument", () -> x.argument(2), 2);
                x.clear();
            });
        }
        for (int i : new int[] {0, 1, 2, 8}) {
            same("begin without THE MERGE", states.get(i), x -> CHECKS.throwing("begin", x::begin, STATE));
            same("check without THE MERGE", states.get(i), x -> CHECKS.throwing("check", x::check, STATE));
        }
        for (int i : new int[] {0, 1, 2, 3, 8}) {
            same("memory without THE RUN", states.get(i), x -> CHECKS.throwing("memory", () -> x.memory(0), STATE));
        }
    }

    private static void gone(String what, WasmMerge x) {
        CHECKS.throwing(what + ": THE MERGE is gone", x::check, STATE);
        CHECKS.throwing(what + ": no count", () -> x.count(0), STATE);
        CHECKS.throwing(what + ": no begin", x::begin, STATE);
        CHECKS.throwing(what + ": THE RUN is gone", () -> x.call(0, 0), STATE);
        CHECKS.throwing(what + ": no memory", () -> x.memory(0), STATE);
        CHECKS.throwing(what + ": no global", () -> x.global(0, 3), STATE);
        CHECKS.answers(what + ": arguments are gone", () -> x.argument(1), 1);
    }

    private static void addWithFault() {
        CHECKS.sentence("a FAULT in add() or merge(), behind which THE MERGE (and THE RUN, arguments) are gone as "
            + "without one");
        byte[][] wrong = {Modules.MALFORMED, Modules.NOT_VALID, Modules.TOO_MUCH};
        for (int i = 0; i < 3; i++) {
            WasmMerge x = Binary.running(rich());
            x.call(0, 6);
            x.argument(1);
            Binary.feed(x, wrong[i]);
            CHECKS.throwing("add", x::add, FAULT);
            CHECKS.same("its FAULT", x.fault(), i + 1);
            gone("a FAULT in add", x);
            CHECKS.answers("the MODULE that was there stays", () -> x.told(0, 4), 8);
            CHECKS.throwing("no other is there", () -> x.told(1, 0), INDEX);
            CHECKS.answers("it can be merged again", x::merge, 5);
            CHECKS.answers("arguments are gone by that, too", () -> x.argument(1), 1);
            x.merge();
            CHECKS.answers("and begun again", x::begin, 0);
            CHECKS.answers("and called", () -> x.call(0, 6), 0);
        }
    }

    private static void mergeWithFault() {
        CHECKS.sentence("a FAULT in add() or merge(), behind which THE MERGE (and THE RUN, arguments) are gone as "
            + "without one");
        byte[][] wrong = {UNFIT, Modules.memory(Binary.limits(0))};
        for (int i = 0; i < 2; i++) {
            WasmMerge x = Binary.running(rich());
            Binary.feed(x, wrong[i]);
            x.add();
            x.argument(1);
            x.argument(2);
            CHECKS.throwing("merge", x::merge, FAULT);
            CHECKS.same("its FAULT", x.fault(), 4 + i);
            gone("a FAULT in merge", x);
            CHECKS.answers("the MODULES stay", x::clear, 2);
        }
    }

    private static void beginWithTrap() {
        CHECKS.sentence("and a TRAP in begin() or call() (arguments are gone, THE RUN goes on).");
        byte[] start = Binary.module(Binary.types(NULLARY), Binary.functions(0), Binary.start(0),
            Binary.codes(Binary.body(Binary.op(0))));
        byte[] segment = Binary.module(Binary.imports(Binary.imported("a", "m", 2, Binary.limits(1))),
            Binary.data(Binary.datum(Binary.i32(65536), 1)));
        int[] due = {1, 6};
        byte[][] modules = {start, segment};
        for (int i = 0; i < 2; i++) {
            WasmMerge x = Binary.merged(rich(), modules[i]);
            for (int turn = 0; turn < 2; turn++) {
                x.argument(1);
                x.argument(2);
                CHECKS.throwing("begin", x::begin, TRAP);
                CHECKS.same("its TRAP", x.trap(), due[i]);
                CHECKS.answers("arguments are gone", () -> x.argument(3), 1);
                CHECKS.answers("the next", () -> x.argument(4), 2);
                CHECKS.answers("THE RUN goes on", () -> x.call(0, 0), 4);
                CHECKS.answers("its memory", () -> x.memory(1), 12);
                CHECKS.answers("its global", () -> x.global(0, 3), 5);
                CHECKS.answers("THE MERGE stays", x::check, 0);
            }
        }
    }

    private static void callWithTrap() {
        CHECKS.sentence("and a TRAP in begin() or call() (arguments are gone, THE RUN goes on).");
        WasmMerge x = Binary.running(rich(), Modules.function(Binary.type(NO, I32, I64), Binary.op(0)));
        for (int turn = 1; turn <= 3; turn++) {
            int times = turn;
            CHECKS.throwing("a call without arguments", () -> x.call(0, 4), TRAP);
            CHECKS.answers("THE RUN goes on: its global", () -> x.global(0, 3), 5 + times);
            CHECKS.answers("its memory", () -> x.memory(1), 12 + 3 * times);
            x.argument(1);
            x.argument(2);
            CHECKS.throwing("a call with arguments", () -> x.call(1, 0), TRAP);
            CHECKS.answers("arguments are gone", () -> x.argument(3), 1);
            CHECKS.answers("the next", () -> x.argument(4), 2);
            CHECKS.answers("THE RUN goes on: a call", () -> x.call(0, 0), 4);
            CHECKS.answers("THE MERGE stays", x::check, 0);
        }
    }
}
