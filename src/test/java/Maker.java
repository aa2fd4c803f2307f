import java.util.ArrayList;
import java.util.Collections;
import java.util.List;
import java.util.Random;

/** Makes MODULES that import from one another, most of them so that they fit. */
final class Maker {
    private static final int I32 = Binary.I32;
    private static final int I64 = Binary.I64;
    private static final int NO = Binary.NO;
    private static final Plan.Kind NULLARY = kind(NO);
    private static final List<Plan.Kind> KINDS = List.of(NULLARY, NULLARY, kind(I32), kind(I64), kind(I32, I32),
        kind(NO, I64), kind(I64, I32, I64), kind(I32, I32, I32), kind(NO, I32, I64, I32), kind(I32, I64, I64, I64),
        kind(I64, I32, I32, I32, I32, I64, I64));
    private static final String[] NOWHERE = {"h", "", "aa", "z", "A", "`", "g"};

    private final Random random;

    Maker(Random random) {
        this.random = random;
    }

    private static Plan.Kind kind(int result, Integer... parameters) {
        return new Plan.Kind(result, List.of(parameters));
    }

    private boolean chance(int percent) {
        return random.nextInt(100) < percent;
    }

    private Plan.Kind anyKind() {
        return KINDS.get(random.nextInt(KINDS.size()));
    }

    private int anyType() {
        return random.nextBoolean() ? I32 : I64;
    }

    /** So many MODULES; those that are made later import from those before, whatever their numbers are. */
    List<Plan> world(int many) {
        List<Integer> order = new ArrayList<>();
        List<Plan> world = new ArrayList<>();
        for (int k = 0; k < many; k++) {
            order.add(k);
            world.add(null);
        }
        Collections.shuffle(order, random);
        for (int k : order) {
            world.set(k, plan(k, world));
        }
        return world;
    }

    private Plan plan(int k, List<Plan> world) {
        Plan plan = new Plan();
        for (int i = random.nextInt(4); i > 0; i--) {
            plan.types.add(anyKind());
        }
        for (int i = random.nextInt(7); i > 0; i--) {
            plan.imports.addAll(bring(plan, world));
        }
        boolean ring = chance(3);
        Plan.Kind own = anyKind();
        if (chance(8)) {
            plan.imports.add(new Plan.Bring(Modules.nameOf(k), "own", 0, plan.typeNumber(own), false, null));
        }
        addTable(plan, world);
        addMemory(plan, world);
        addGlobals(plan);
        addFunctions(plan, own);
        addExports(plan);
        plan.exports.add(new Plan.Give("own", 0, ring ? 0 : plan.many(0) - 1));
        addPieces(plan);
        for (int f = 0; f < plan.many(0); f++) {
            if (plan.kindOf(f).equals(NULLARY) && chance(25)) {
                plan.start = f;
            }
        }
        return plan;
    }

    private List<Plan.Bring> bring(Plan plan, List<Plan> world) {
        int k = random.nextInt(world.size());
        Plan from = world.get(k);
        if (from == null || chance(20)) {
            String module = chance(50) ? NOWHERE[random.nextInt(NOWHERE.length)] : Modules.nameOf(k);
            return List.of(new Plan.Bring(module, "none", 0, plan.typeNumber(anyKind()), false, null));
        }
        if (from.exports.isEmpty()) {
            return List.of();
        }
        Plan.Give give = from.exports.get(random.nextInt(from.exports.size()));
        if ((give.sort() == 1 || give.sort() == 2) && plan.many(give.sort()) > 0) {
            return List.of();
        }
        return List.of(bringOf(plan, from, give, Modules.nameOf(k)));
    }

    private Plan.Bring bringOf(Plan plan, Plan from, Plan.Give give, String module) {
        boolean unlike = chance(2);
        int type = 0;
        boolean mutable = false;
        Plan.Limits limits = null;
        switch (give.sort()) {
            case 0:
                type = plan.typeNumber(unlike ? anyKind() : from.kindOf(give.index()));
                break;
            case 3:
                type = unlike ? anyType() : from.typeOfGlobal(give.index());
                mutable = from.mutableGlobal(give.index());
                break;
            default:
                limits = unlike ? new Plan.Limits(random.nextInt(4), 4) : new Plan.Limits(random.nextInt(2), Plan.WITHOUT);
                break;
        }
        return new Plan.Bring(module, give.name(), give.sort(), type, mutable, limits);
    }

    private void addTable(Plan plan, List<Plan> world) {
        boolean there = false;
        for (Plan other : world) {
            there |= other != null && other.table != null;
        }
        if (plan.many(1) == 0 && chance(there ? 1 : 70)) {
            int least = random.nextInt(10);
            plan.table = new Plan.Limits(least, chance(50) ? Plan.WITHOUT : least + random.nextInt(3));
        }
    }

    private void addMemory(Plan plan, List<Plan> world) {
        boolean there = false;
        for (Plan other : world) {
            there |= other != null && other.memory != null;
        }
        if (plan.many(2) == 0 && chance(there ? 1 : 70)) {
            int least = random.nextInt(5) == 0 ? random.nextInt(3) : 1;
            plan.memory = new Plan.Limits(least, chance(50) ? Plan.WITHOUT : least + random.nextInt(3));
        }
    }

    private void addGlobals(Plan plan) {
        int brought = plan.many(3);
        for (int i = random.nextInt(4); i > 0; i--) {
            int type = anyType();
            Code initial = Code.constant(type, anyNumber());
            for (int g = 0; g < brought; g++) {
                if (plan.typeOfGlobal(g) == type && !plan.mutableGlobal(g) && chance(60)) {
                    initial = Code.indexed(0x23, g);
                }
            }
            plan.globals.add(new Plan.Value(type, chance(60), initial));
        }
    }

    /** At least one, the last of this type; a body may call all of them, so the types stand first. */
    private void addFunctions(Plan plan, Plan.Kind last) {
        int many = random.nextInt(4);
        List<List<Integer>> locals = new ArrayList<>();
        for (int i = 0; i <= many; i++) {
            List<Integer> some = new ArrayList<>();
            for (int n = random.nextInt(3); n >= 0; n--) {
                some.add(n == 0 ? I32 : anyType());
            }
            locals.add(some);
            plan.functions.add(new Plan.Own(plan.typeNumber(i == many ? last : anyKind()), some, List.of()));
        }
        for (int i = 0; i <= many; i++) {
            int type = plan.functions.get(i).type();
            Bodies bodies = new Bodies(random, plan, plan.brought(0).size() + i, locals.get(i));
            plan.functions.set(i, new Plan.Own(type, locals.get(i), bodies.body()));
        }
    }

    private void addExports(Plan plan) {
        String letters = "ftmg";
        for (int sort = 0; sort < 4; sort++) {
            for (int i = 0; i < plan.many(sort); i++) {
                if (chance(80)) {
                    int place = random.nextInt(plan.exports.size() + 1);
                    plan.exports.add(place, new Plan.Give(letters.charAt(sort) + String.valueOf(i), sort, i));
                }
            }
        }
    }

    private void addPieces(Plan plan) {
        for (int i = random.nextInt(3); i > 0 && plan.many(1) > 0; i--) {
            int[] functions = new int[random.nextInt(4)];
            for (int n = 0; n < functions.length; n++) {
                functions[n] = random.nextInt(plan.many(0));
            }
            plan.elements.add(new Plan.Piece(place(plan, random.nextInt(chance(5) ? 12 : 4)), functions));
        }
        for (int i = random.nextInt(3); i > 0 && plan.many(2) > 0; i--) {
            int[] bytes = new int[random.nextInt(5)];
            for (int n = 0; n < bytes.length; n++) {
                bytes[n] = random.nextInt(256);
            }
            int[] places = {0, 1, 4, 8, 65531, 65532, 65536 - bytes.length};
            plan.data.add(new Plan.Piece(place(plan, places[random.nextInt(chance(95) ? 4 : places.length)]), bytes));
        }
    }

    private Code place(Plan plan, int at) {
        for (int g = 0; g < plan.many(3); g++) {
            if (plan.typeOfGlobal(g) == I32 && !plan.mutableGlobal(g) && chance(5)) {
                return Code.indexed(0x23, g);
            }
        }
        return Code.constant(I32, chance(1) ? -1 : at);
    }

    private long anyNumber() {
        return Bodies.number(random);
    }
}
