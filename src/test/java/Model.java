import java.nio.charset.StandardCharsets;
import java.util.ArrayDeque;
import java.util.ArrayList;
import java.util.Deque;
import java.util.HashMap;
import java.util.List;
import java.util.Map;

/**
 * The document's face once more, in its plainest form: MODULES are not read, but known by their bytes, and all that is
 * not known is malformed. What it answers is what a WasmMerge must answer.
 */
final class Model {
    private record Known(int fault, Plan plan) {
    }

    private final Map<String, Known> library = new HashMap<>();
    private final StringBuilder row = new StringBuilder();
    private final List<Plan> modules = new ArrayList<>();
    private final List<Long> arguments = new ArrayList<>();
    private final Deque<Long> output = new ArrayDeque<>();
    private Union merge;
    private Run run;
    private int fault;
    private int trap;

    void know(Plan plan) {
        library.put(text(plan.bytes()), new Known(0, plan));
    }

    void know(byte[] module, int itsFault) {
        library.put(text(module), new Known(itsFault, null));
    }

    private static String text(byte[] bytes) {
        return new String(bytes, StandardCharsets.ISO_8859_1);
    }

    int modules() {
        return modules.size();
    }

    int rowLength() {
        return row.length();
    }

    boolean runs() {
        return run != null;
    }

    int arguments() {
        return arguments.size();
    }

    /** How many parameters export j of MODULE k has; 0 if it is no function. */
    int parameters(int k, int j) {
        Plan.Give give = export(k, j);
        return give == null || give.sort() != 0 ? 0 : modules.get(k).kindOf(give.index()).parameters().size();
    }

    /** Which exports of MODULE k are of this sort. */
    List<Integer> exports(int k, int sort) {
        List<Integer> some = new ArrayList<>();
        for (int j = 0; export(k, j) != null; j++) {
            if (export(k, j).sort() == sort) {
                some.add(j);
            }
        }
        return some;
    }

    /** The export of MODULE k, null if there is none. */
    private Plan.Give export(int k, int j) {
        boolean has = k >= 0 && k < modules.size() && j >= 0 && j < modules.get(k).exports.size();
        return has ? modules.get(k).exports.get(j) : null;
    }

    int feed(int a, int b, int c, int d, int e) {
        if (row.length() + 20 > 4000) {
            throw new IllegalStateException();
        }
        for (int word : new int[] {a, b, c, d, e}) {
            row.append((char) (word >>> 24)).append((char) (word >>> 16 & 255)).append((char) (word >>> 8 & 255))
                .append((char) (word & 255));
        }
        return row.length();
    }

    int end(int n) {
        if (n > row.length() || n < 0) {
            throw new IllegalArgumentException();
        }
        row.setLength(n);
        return n;
    }

    private void forget() {
        merge = null;
        run = null;
        arguments.clear();
    }

    int add() {
        if (modules.size() == 6) {
            throw new IllegalStateException();
        }
        Known known = library.getOrDefault(row.toString(), new Known(1, null));
        row.setLength(0);
        forget();
        fault = known.fault();
        if (fault != 0) {
            throw new UnsupportedOperationException();
        }
        modules.add(known.plan());
        return modules.size() - 1;
    }

    int clear() {
        int many = modules.size();
        modules.clear();
        forget();
        return many;
    }

    int merge() {
        if (modules.isEmpty()) {
            throw new IllegalStateException();
        }
        forget();
        Union union = new Union(modules);
        fault = union.fault;
        if (fault != 0) {
            throw new UnsupportedOperationException();
        }
        merge = union;
        return union.functions;
    }

    int begin() {
        if (merge == null) {
            throw new IllegalStateException();
        }
        output.clear();
        run = new Run(merge, output);
        trap = 0;
        try {
            run.begin();
        } catch (Run.Trap e) {
            trap = e.number;
            arguments.clear();
            throw new ArithmeticException();
        }
        return 0;
    }

    int argument(long v) {
        if (arguments.size() == 6) {
            throw new IllegalStateException();
        }
        arguments.add(v);
        return arguments.size();
    }

    long call(int k, int j) {
        if (run == null) {
            throw new IllegalStateException();
        }
        Plan.Give give = export(k, j);
        if (give == null) {
            throw new IndexOutOfBoundsException();
        }
        if (give.sort() != 0 || modules.get(k).kindOf(give.index()).parameters().size() != arguments.size()) {
            throw new IllegalArgumentException();
        }
        List<Long> given = new ArrayList<>(arguments);
        arguments.clear();
        trap = 0;
        try {
            return run.call(k, give.index(), given);
        } catch (Run.Trap e) {
            trap = e.number;
            throw new ArithmeticException();
        }
    }

    int fault() {
        return fault;
    }

    int trap() {
        return trap;
    }

    long take() {
        return output.isEmpty() ? 0 : output.remove();
    }

    int memory(int at) {
        if (run == null) {
            throw new IllegalStateException();
        }
        return run.byteAt(at);
    }

    long global(int k, int j) {
        if (run == null) {
            throw new IllegalStateException();
        }
        Plan.Give give = export(k, j);
        if (give == null) {
            throw new IndexOutOfBoundsException();
        }
        if (give.sort() != 3) {
            throw new IllegalArgumentException();
        }
        return run.global(k, give.index());
    }

    int told(int k, int what) {
        if (k < 0 || k >= modules.size()) {
            throw new IndexOutOfBoundsException();
        }
        Plan plan = modules.get(k);
        switch (what) {
            case 0: return plan.types.size();
            case 1: return plan.imports.size();
            case 2: return plan.many(0);
            case 3: return plan.many(3);
            case 4: return plan.exports.size();
            case 5: return plan.elements.size();
            case 6: return plan.data.size();
            case 7: return plan.start < 0 ? 0 : 1;
            default:
                if (what < 10 || export(k, what - 10) == null) {
                    throw new IllegalArgumentException();
                }
                return export(k, what - 10).sort();
        }
    }

    int count(int what) {
        if (merge == null) {
            throw new IllegalStateException();
        }
        switch (what) {
            case 0: return merge.types.size();
            case 1: return merge.hosts.size();
            case 2: return merge.functions;
            case 3: return merge.globals;
            case 4: return merge.exports;
            case 5: return run == null ? -1 : run.pages();
            case 6: return merge.table == null ? -1 : (int) merge.table.least();
            case 7: return output.size();
            default: throw new IllegalArgumentException();
        }
    }

    int check() {
        if (merge == null) {
            throw new IllegalStateException();
        }
        return 0;
    }
}
