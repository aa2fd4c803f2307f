import java.util.Arrays;
import java.util.Deque;
import java.util.HashMap;
import java.util.List;
import java.util.Map;

/** Term 3, as a model: trees are walked, and a call in a MODULE is a call in Java. An i32 is the long of its int. */
final class Run {
    /** A TRAP. */
    static final class Trap extends RuntimeException {
        private static final long serialVersionUID = 1;
        final int number;

        Trap(int number) {
            super(null, null, false, false);
            this.number = number;
        }
    }

    private static final class Branch extends RuntimeException {
        private static final long serialVersionUID = 1;
        private static final int OUT = -1;
        private int label;
        private final long value;

        Branch(int label, long value) {
            super(null, null, false, false);
            this.label = label;
            this.value = value;
        }
    }

    /** A call that goes on: its MODULE and its locals. */
    private record Frame(int k, long[] locals) {
    }

    private static final int PAGE = 65536;
    private final Union union;
    private final Deque<Long> output;
    private final Map<Union.Thing, Long> globals = new HashMap<>();
    private final Union.Thing[] table;
    private byte[] memory;
    private int steps;
    private int depth;

    Run(Union union, Deque<Long> output) {
        this.union = union;
        this.output = output;
        table = new Union.Thing[union.table == null ? 0 : (int) union.table.least()];
        memory = new byte[union.memory == null ? 0 : (int) union.memory.least() * PAGE];
    }

    void begin() {
        for (int k = 0; k < union.plans.size(); k++) {
            Plan plan = union.plans.get(k);
            int before = plan.brought(3).size();
            for (int g = 0; g < plan.globals.size(); g++) {
                globals.put(new Union.Thing(k, before + g), initial(k, plan.globals.get(g).initial()));
            }
        }
        for (int k = 0; k < union.plans.size(); k++) {
            for (Plan.Piece piece : union.plans.get(k).elements) {
                long at = placeFor(k, piece, table.length);
                for (int i = 0; i < piece.content().length; i++) {
                    table[(int) at + i] = union.thing(k, 0, piece.content()[i]);
                }
            }
        }
        for (int k = 0; k < union.plans.size(); k++) {
            for (Plan.Piece piece : union.plans.get(k).data) {
                long at = placeFor(k, piece, memory.length);
                for (int i = 0; i < piece.content().length; i++) {
                    memory[(int) at + i] = (byte) piece.content()[i];
                }
            }
        }
        for (int k = 0; k < union.plans.size(); k++) {
            if (union.plans.get(k).start >= 0) {
                depth = 0;
                invoke(union.thing(k, 0, union.plans.get(k).start), new long[0]);
            }
        }
    }

    private long initial(int k, Code initial) {
        return initial.op == 0x23 ? globals.getOrDefault(union.thing(k, 3, (int) initial.number), 0L) : initial.number;
    }

    private long placeFor(int k, Plan.Piece piece, int size) {
        long at = Integer.toUnsignedLong((int) initial(k, piece.initial()));
        if (at + piece.content().length > size) {
            throw new Trap(6);
        }
        return at;
    }

    /** A call from outside. */
    long call(int k, int function, List<Long> arguments) {
        steps = 0;
        depth = 0;
        Plan.Kind kind = union.plans.get(k).kindOf(function);
        long[] values = new long[arguments.size()];
        for (int i = 0; i < values.length; i++) {
            values[i] = kind.parameters().get(i) == Binary.I32 ? arguments.get(i).intValue() : arguments.get(i);
        }
        long result = invoke(union.thing(k, 0, function), values);
        return kind.result() == Binary.NO ? 0 : result;
    }

    long global(int k, int index) {
        return globals.get(union.thing(k, 3, index));
    }

    int pages() {
        return union.memory == null ? -1 : memory.length / PAGE;
    }

    int byteAt(int at) {
        return at >= 0 && at < memory.length ? Byte.toUnsignedInt(memory[at]) : -1;
    }

    private void write(long value) {
        if (output.size() < 2000) {
            output.add(value);
        }
    }

    private long invoke(Union.Thing thing, long[] values) {
        if (depth == 100) {
            throw new Trap(5);
        }
        Integer host = union.hosts.get(thing);
        if (host != null) {
            write(host);
            for (long value : values) {
                write(value);
            }
            return 0;
        }
        Plan plan = union.plans.get(thing.module());
        Plan.Own own = plan.functions.get(thing.index() - plan.brought(0).size());
        depth++;
        Frame frame = new Frame(thing.module(), Arrays.copyOf(values, values.length + own.locals().size()));
        long result;
        try {
            result = all(own.body(), frame);
        } catch (Branch branch) {
            result = branch.value;
        }
        depth--;
        return result;
    }

    private long all(List<Code> codes, Frame frame) {
        long last = 0;
        for (Code code : codes) {
            last = one(code, frame);
        }
        return last;
    }

    private long one(Code code, Frame frame) {
        long[] taken = new long[code.takes.length];
        for (int i = 0; i < taken.length; i++) {
            taken[i] = one(code.takes[i], frame);
        }
        if (steps == 20000) {
            throw new Trap(7);
        }
        steps++;
        int op = code.op;
        if (op <= 0x11) {
            return control(code, taken, frame);
        }
        if (op <= 0x24) {
            return variable(code, taken, frame);
        }
        if (op <= 0x3e) {
            return access(code, taken);
        }
        switch (op) {
            case 0x3f: return pages();
            case 0x40: return grow(Integer.toUnsignedLong((int) taken[0]));
            case 0x41: return code.number;
            case 0x42: return code.number;
            default: return Sums.of(op, taken[0], taken.length > 1 ? taken[1] : 0);
        }
    }

    private long control(Code code, long[] taken, Frame frame) {
        long last = taken.length == 0 ? 0 : taken[taken.length - 1];
        switch (code.op) {
            case 0x00: throw new Trap(1);
            case 0x01: return 0;
            case 0x02: return inside(code.body, frame);
            case 0x03: return loop(code.body, frame);
            case 0x04:
                List<Code> otherwise = code.otherwise == null ? List.of() : code.otherwise;
                return inside(last != 0 ? code.body : otherwise, frame);
            case 0x0c: throw new Branch((int) code.number, last);
            case 0x0d:
                long carried = taken.length > 1 ? taken[0] : 0;
                if (last != 0) {
                    throw new Branch((int) code.number, carried);
                }
                return carried;
            case 0x0e:
                long which = Math.min(Integer.toUnsignedLong((int) last), code.labels.length - 1);
                throw new Branch(code.labels[(int) which], taken.length > 1 ? taken[0] : 0);
            case 0x0f: throw new Branch(Branch.OUT, last);
            case 0x10: return invoke(union.thing(frame.k(), 0, (int) code.number), taken);
            default: return indirect(frame.k(), (int) code.number, taken);
        }
    }

    private long inside(List<Code> body, Frame frame) {
        try {
            return all(body, frame);
        } catch (Branch branch) {
            if (branch.label != 0) {
                throw outward(branch);
            }
            return branch.value;
        }
    }

    private long loop(List<Code> body, Frame frame) {
        while (true) {
            try {
                return all(body, frame);
            } catch (Branch branch) {
                if (branch.label != 0) {
                    throw outward(branch);
                }
            }
        }
    }

    private static Branch outward(Branch branch) {
        branch.label = branch.label == Branch.OUT ? Branch.OUT : branch.label - 1;
        return branch;
    }

    private long indirect(int k, int type, long[] taken) {
        long at = Integer.toUnsignedLong((int) taken[taken.length - 1]);
        Union.Thing thing = at < table.length ? table[(int) at] : null;
        if (thing == null) {
            throw new Trap(4);
        }
        Plan.Kind found = union.plans.get(thing.module()).kindOf(thing.index());
        if (!found.equals(union.plans.get(k).types.get(type))) {
            throw new Trap(4);
        }
        return invoke(thing, Arrays.copyOf(taken, taken.length - 1));
    }

    private long variable(Code code, long[] taken, Frame frame) {
        int index = (int) code.number;
        switch (code.op) {
            case 0x1a: return 0;
            case 0x1b: return taken[2] != 0 ? taken[0] : taken[1];
            case 0x20: return frame.locals()[index];
            case 0x21:
            case 0x22:
                frame.locals()[index] = taken[0];
                return taken[0];
            case 0x23: return globals.get(union.thing(frame.k(), 3, index));
            default:
                globals.put(union.thing(frame.k(), 3, index), taken[0]);
                return 0;
        }
    }

    private long access(Code code, long[] taken) {
        int many = Sums.width(code.op);
        long at = Integer.toUnsignedLong((int) taken[0]) + code.number;
        if (at + many > memory.length) {
            throw new Trap(3);
        }
        if (taken.length > 1) {
            for (int i = 0; i < many; i++) {
                memory[(int) at + i] = (byte) (taken[1] >>> 8 * i);
            }
            return 0;
        }
        long value = 0;
        for (int i = 0; i < many; i++) {
            value |= Byte.toUnsignedLong(memory[(int) at + i]) << 8 * i;
        }
        return Sums.loaded(code.op, value);
    }

    private long grow(long more) {
        int now = memory.length / PAGE;
        long most = union.memory.most() == Plan.WITHOUT ? 2 : Math.min(2, union.memory.most());
        if (now + more > most) {
            return -1;
        }
        memory = Arrays.copyOf(memory, (int) (now + more) * PAGE);
        return now;
    }
}
