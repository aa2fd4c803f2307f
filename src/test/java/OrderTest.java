import java.util.ArrayList;
import java.util.List;
import java.util.Random;

/**
 * Promises 1 to 17 in any order, 512 calls on one object, over one MODULE and over six: each call answers and throws
 * what the Model does.
 */
public final class OrderTest {
    private static final Checks CHECKS = new Checks();
    private static final int CALLS = 512;
    private static final int[] FAULTS = {1, 2, 3};
    private static final byte[][] FAULTY = {Modules.MALFORMED, Modules.NOT_VALID, Modules.TOO_MUCH};
    private static final int[] ODD = {-1, 7, 8, 9, 49, 50, 65535, 65536, 131071, 131072, Integer.MAX_VALUE, Integer.MIN_VALUE};

    private final Random random;
    private final WasmMerge object = new WasmMerge();
    private final Model model = new Model();
    private final List<byte[]> world = new ArrayList<>();
    private final String name;
    private int calls;

    private OrderTest(long seed, int many) {
        random = new Random(seed);
        name = "seed " + seed + ", call ";
        for (Plan plan : new Maker(random).world(many)) {
            model.know(plan);
            world.add(plan.bytes());
        }
        for (int i = 0; i < FAULTS.length; i++) {
            model.know(FAULTY[i], FAULTS[i]);
        }
    }

    public static void main(String[] args) throws InterruptedException {
        // the model goes deeper in Java than the stack of a main thread may allow
        Thread thread = new Thread(null, OrderTest::all, "model", 64 << 20);
        thread.setUncaughtExceptionHandler((which, thrown) -> {
            thrown.printStackTrace();
            System.exit(1);
        });
        thread.start();
        thread.join();
        CHECKS.finish("OrderTest");
    }

    private static void all() {
        for (int seed = 1; seed <= 1200; seed++) {
            new OrderTest(seed, 1 + seed % 6).play();
        }
    }

    private void play() {
        while (calls < CALLS) {
            int choice = random.nextInt(100);
            if (choice < (model.runs() ? 4 : 75)) {
                advance();
            } else if (choice < (model.runs() ? 65 : 82)) {
                callSome();
            } else if (choice < 96) {
                ask();
            } else {
                disturb();
            }
        }
    }

    /** One step on the way to THE RUN of all MODULES, or of some of them. */
    private void advance() {
        if (model.modules() < world.size() && random.nextInt(model.modules() == 0 ? 20 : 5) > 0) {
            put(world.get(model.modules()));
            return;
        }
        if (!model.runs() || random.nextInt(3) > 0) {
            same("merge", object::merge, model::merge);
            same("fault", object::fault, model::fault);
        }
        if (model.fault() != 0 && random.nextInt(3) == 0) {
            same("clear", object::clear, model::clear);
        }
        same("begin", object::begin, model::begin);
        same("trap", object::trap, model::trap);
    }

    private int anySmall(int bound) {
        return random.nextInt(20) == 0 ? ODD[random.nextInt(ODD.length)] : random.nextInt(bound);
    }

    /** Most often one of this sort. */
    private int anyExport(int k, int sort) {
        List<Integer> some = model.exports(k, sort);
        return some.isEmpty() || random.nextInt(12) == 0 ? anySmall(8) : some.get(random.nextInt(some.size()));
    }

    private void same(String what, Checks.Call got, Checks.Call due) {
        if (calls >= CALLS) {
            return;
        }
        calls++;
        CHECKS.sameText(name + calls + ", " + what, heard(got), heard(due));
    }

    private static String heard(Checks.Call call) {
        try {
            return String.valueOf(call.run());
        } catch (RuntimeException e) {
            return e.getClass().getSimpleName();
        }
    }

    private void feed(byte[] module) {
        for (int at = 0; at < module.length; at += 20) {
            int[] words = new int[5];
            for (int i = 0; i < 20; i++) {
                words[i / 4] = words[i / 4] << 8 | (at + i < module.length ? module[at + i] & 255 : 0);
            }
            same("feed", () -> object.feed(words[0], words[1], words[2], words[3], words[4]),
                () -> model.feed(words[0], words[1], words[2], words[3], words[4]));
        }
    }

    private void end(int n) {
        same("end", () -> object.end(n), () -> model.end(n));
    }

    private void add() {
        same("add", object::add, model::add);
        same("fault", object::fault, model::fault);
    }

    private void put(byte[] module) {
        if (model.rowLength() > 0) {
            end(0);
        }
        feed(module);
        end(module.length);
        add();
    }

    private void callSome() {
        int k = anySmall(Math.max(1, model.modules()));
        int j = anyExport(k, 0);
        int fit = Math.max(0, model.parameters(k, j) - model.arguments());
        int many = random.nextInt(15) == 0 ? random.nextInt(8) : fit;
        for (int i = 0; i < many; i++) {
            long value = random.nextInt(3) == 0 ? Bodies.number(random) : random.nextInt(12);
            same("argument", () -> object.argument(value), () -> model.argument(value));
        }
        same("call", () -> object.call(k, j), () -> model.call(k, j));
        same("trap", object::trap, model::trap);
        if (random.nextInt(2) == 0) {
            look();
        }
    }

    private void look() {
        for (int i = random.nextInt(4); i >= 0; i--) {
            same("take", object::take, model::take);
        }
        int at = random.nextInt(4) == 0 ? anySmall(131073) : random.nextInt(56);
        same("memory", () -> object.memory(at), () -> model.memory(at));
        int what = 5 + random.nextInt(3);
        same("count", () -> object.count(what), () -> model.count(what));
        int k = anySmall(Math.max(1, model.modules()));
        int j = anyExport(k, 3);
        same("global", () -> object.global(k, j), () -> model.global(k, j));
    }

    private void ask() {
        int k = anySmall(Math.max(1, model.modules()));
        int j = anySmall(9);
        switch (random.nextInt(6)) {
            case 0: same("told", () -> object.told(k, j), () -> model.told(k, j)); break;
            case 1: same("told", () -> object.told(k, j + 10), () -> model.told(k, j + 10)); break;
            case 2: same("count", () -> object.count(j), () -> model.count(j)); break;
            default: look(); break;
        }
    }

    /** What is gone behind it, or what is refused. */
    private void disturb() {
        switch (random.nextInt(8)) {
            case 0: same("clear", object::clear, model::clear); break;
            case 1: put(FAULTY[random.nextInt(FAULTY.length)]); break;
            case 2: add(); break;
            case 3: feed(new byte[20]); break;
            case 4: end(random.nextInt(6) - 1); break;
            case 5: same("begin", object::begin, model::begin); break;
            case 6: same("check", object::check, model::check); break;
            default: put(world.get(random.nextInt(world.size()))); break;
        }
    }
}
