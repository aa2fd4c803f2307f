import java.util.ArrayList;
import java.util.HashSet;
import java.util.LinkedHashMap;
import java.util.List;
import java.util.Map;
import java.util.Set;

/** Term 2, as a model: which thing each import is at last, found by going from one to the next anew each time. */
final class Union {
    /** The MODULE whose own (or whose HOST's) it is, and its index there. */
    record Thing(int module, int index) {
    }

    private static final class Unfit extends RuntimeException {
        private static final long serialVersionUID = 1;
    }

    final List<Plan> plans;
    /** Each HOST's function, and its number. */
    final Map<Thing, Integer> hosts = new LinkedHashMap<>();
    final Set<Plan.Kind> types = new HashSet<>();
    int fault;
    int functions;
    int globals;
    int exports;
    Plan.Limits table;
    Plan.Limits memory;

    Union(List<Plan> added) {
        plans = new ArrayList<>(added);
        for (int k = 0; k < plans.size(); k++) {
            Plan plan = plans.get(k);
            types.addAll(plan.types);
            functions += plan.functions.size();
            globals += plan.globals.size();
            exports += plan.exports.size();
            List<Plan.Bring> brought = plan.brought(0);
            for (int i = 0; i < brought.size(); i++) {
                if (giverOf(brought.get(i)) == null) {
                    hosts.put(new Thing(k, i), hosts.size());
                }
            }
        }
        functions += hosts.size();
        fault = allFit() ? ownTwice() : 4;
    }

    private boolean allFit() {
        try {
            for (int k = 0; k < plans.size(); k++) {
                for (int sort = 0; sort < 4; sort++) {
                    List<Plan.Bring> brought = plans.get(k).brought(sort);
                    for (int i = 0; i < brought.size(); i++) {
                        compare(plans.get(k), brought.get(i), thing(k, sort, i));
                    }
                }
            }
        } catch (Unfit e) {
            return false;
        }
        return true;
    }

    private int ownTwice() {
        int twice = 0;
        for (Plan plan : plans) {
            twice |= plan.table != null && table != null ? 5 : 0;
            twice |= plan.memory != null && memory != null ? 5 : 0;
            table = plan.table != null ? plan.table : table;
            memory = plan.memory != null ? plan.memory : memory;
        }
        return twice;
    }

    /** The MODULE that this import names, if that has such an export. */
    private Integer giverOf(Plan.Bring bring) {
        for (int k = 0; k < plans.size(); k++) {
            if (bring.module().equals(Modules.nameOf(k)) && plans.get(k).exported(bring.name()) != null) {
                return k;
            }
        }
        return null;
    }

    /** What number index of this sort of MODULE k is at last. */
    Thing thing(int k, int sort, int index) {
        Set<Thing> seen = new HashSet<>();
        Thing at = new Thing(k, index);
        while (true) {
            List<Plan.Bring> brought = plans.get(at.module()).brought(sort);
            if (at.index() >= brought.size() || hosts.containsKey(at) && sort == 0) {
                return at;
            }
            Integer giver = giverOf(brought.get(at.index()));
            Plan.Give give = giver == null ? null : plans.get(giver).exported(brought.get(at.index()).name());
            if (!seen.add(at) || give == null || give.sort() != sort) {
                throw new Unfit();
            }
            at = new Thing(giver, give.index());
        }
    }

    private void compare(Plan plan, Plan.Bring bring, Thing thing) {
        Plan owner = plans.get(thing.module());
        boolean same;
        switch (bring.sort()) {
            case 0: same = plan.types.get(bring.type()).equals(owner.kindOf(thing.index())); break;
            case 1: same = within(bring.limits(), owner.table); break;
            case 2: same = within(bring.limits(), owner.memory); break;
            default:
                same = bring.type() == owner.typeOfGlobal(thing.index())
                    && bring.mutable() == owner.mutableGlobal(thing.index());
                break;
        }
        if (!same) {
            throw new Unfit();
        }
    }

    private static boolean within(Plan.Limits asked, Plan.Limits given) {
        if (asked.least() > given.least()) {
            return false;
        }
        return asked.most() == Plan.WITHOUT || given.most() != Plan.WITHOUT && given.most() <= asked.most();
    }
}
