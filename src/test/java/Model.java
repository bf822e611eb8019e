import java.util.ArrayList;
import java.util.List;

/**
 * The document's words once more, as plainly as can be: every fault is tried in every assignment, one value
 * at a time, and classes grow by going over all the rules until nothing changes. Shares no idea with
 * FaultSearch but the document.
 */
final class Model {
    private record Net(int kind, int a, int b, int input) {
        int pins() {
            return kind < 0 ? 0 : kind >= 5 ? 1 : 2;
        }
    }

    private record Fault(int net, int pin, int v) {
    }

    private final List<Net> nets = new ArrayList<>();
    private final List<Integer> outputs = new ArrayList<>();
    private int inputs;

    private List<List<Fault>> classes;
    private List<boolean[]> table;
    private final List<Integer> simulated = new ArrayList<>();
    private List<Integer> tests;

    private void changed() {
        classes = null;
        table = null;
        simulated.clear();
        tests = null;
    }

    private static void need(boolean good) {
        if (!good) {
            throw new IndexOutOfBoundsException();
        }
    }

    private boolean isNet(int net) {
        return 0 <= net && net < nets.size();
    }

    private static boolean isBit(int v) {
        return v == 0 || v == 1;
    }

    int input() {
        if (inputs == 10 || nets.size() == 100) {
            throw new IllegalStateException();
        }
        nets.add(new Net(-1, 0, 0, inputs++));
        changed();
        return nets.size() - 1;
    }

    int gate(int kind, int a, int b) {
        need(isNet(a));
        need(kind == 5 || kind == 6 || isNet(b));
        if (nets.size() == 100) {
            throw new IllegalStateException();
        }
        if (kind < 0 || kind > 6) {
            throw new IllegalArgumentException();
        }
        nets.add(new Net(kind, a, b, -1));
        changed();
        return nets.size() - 1;
    }

    int output(int net) {
        need(isNet(net));
        if (outputs.size() == 12) {
            throw new IllegalStateException();
        }
        outputs.add(net);
        changed();
        return outputs.size() - 1;
    }

    private static boolean tell(int kind, boolean a, boolean b) {
        return switch (kind) {
            case 0 -> a && b;
            case 1 -> a || b;
            case 2 -> a != b;
            case 3 -> !(a && b);
            case 4 -> !(a || b);
            case 5 -> !a;
            default -> a;
        };
    }

    private boolean pinValue(boolean[] values, int net, int pin, Fault fault) {
        if (fault != null && fault.net == net && fault.pin == pin) {
            return fault.v == 1;
        }
        return values[pin == 0 ? nets.get(net).a : nets.get(net).b];
    }

    private boolean[] values(int assignment, Fault fault) {
        boolean[] values = new boolean[nets.size()];
        for (int n = 0; n < values.length; n++) {
            Net net = nets.get(n);
            if (net.kind < 0) {
                values[n] = (assignment >> net.input & 1) == 1;
            } else {
                boolean a = pinValue(values, n, 0, fault);
                boolean b = net.pins() == 2 && pinValue(values, n, 1, fault);
                values[n] = tell(net.kind, a, b);
            }
            if (fault != null && fault.net == n && fault.pin == -1) {
                values[n] = fault.v == 1;
            }
        }
        return values;
    }

    private boolean isShown(int assignment, Fault fault) {
        boolean[] good = values(assignment, null);
        boolean[] bad = values(assignment, fault);
        for (int output : outputs) {
            if (good[output] != bad[output]) {
                return true;
            }
        }
        return false;
    }

    int value(int net, int assignment) {
        need(isNet(net));
        return values(assignment, null)[net] ? 1 : 0;
    }

    private List<Fault> allFaults() {
        List<Fault> all = new ArrayList<>();
        for (int n = 0; n < nets.size(); n++) {
            for (int pin = -1; pin < nets.get(n).pins(); pin++) {
                all.add(new Fault(n, pin, 0));
                all.add(new Fault(n, pin, 1));
            }
        }
        return all;
    }

    private int takers(int net) {
        int many = 0;
        for (Net gate : nets) {
            for (int pin = 0; pin < gate.pins(); pin++) {
                many += (pin == 0 ? gate.a : gate.b) == net ? 1 : 0;
            }
        }
        return many;
    }

    private List<Fault[]> rules() {
        List<Fault[]> rules = new ArrayList<>();
        for (int n = 0; n < nets.size(); n++) {
            Net gate = nets.get(n);
            for (int pin = 0; pin < gate.pins(); pin++) {
                int source = pin == 0 ? gate.a : gate.b;
                boolean alone = takers(source) == 1 && !outputs.contains(source);
                for (int v = 0; v < 2; v++) {
                    Fault at = new Fault(n, pin, v);
                    int told = -1;
                    switch (gate.kind) {
                        case 0 -> told = v == 0 ? 0 : -1;
                        case 1 -> told = v == 1 ? 1 : -1;
                        case 3 -> told = v == 0 ? 1 : -1;
                        case 4 -> told = v == 1 ? 0 : -1;
                        case 5 -> told = 1 - v;
                        case 6 -> told = v;
                        default -> { }
                    }
                    if (told >= 0) {
                        rules.add(new Fault[] {at, new Fault(n, -1, told)});
                    }
                    if (alone) {
                        rules.add(new Fault[] {at, new Fault(source, -1, v)});
                    }
                }
            }
        }
        return rules;
    }

    private List<List<Fault>> classes() {
        if (classes == null) {
            List<Fault> all = allFaults();
            int[] label = new int[all.size()];
            for (int f = 0; f < label.length; f++) {
                label[f] = f;
            }
            List<Fault[]> rules = rules();
            boolean moved = true;
            while (moved) {
                moved = false;
                for (Fault[] rule : rules) {
                    int one = all.indexOf(rule[0]);
                    int two = all.indexOf(rule[1]);
                    if (label[one] != label[two]) {
                        label[one] = label[two] = Math.min(label[one], label[two]);
                        moved = true;
                    }
                }
            }
            classes = new ArrayList<>();
            for (int first = 0; first < label.length; first++) {
                List<Fault> members = new ArrayList<>();
                for (int f = 0; f < label.length; f++) {
                    if (label[f] == first) {
                        members.add(all.get(f));
                    }
                }
                if (!members.isEmpty()) {
                    classes.add(members);
                }
            }
        }
        return classes;
    }

    private List<boolean[]> table() {
        if (table == null) {
            table = new ArrayList<>();
            for (List<Fault> members : classes()) {
                boolean[] shown = new boolean[1 << inputs];
                for (int x = 0; x < shown.length; x++) {
                    // The last fault, where FaultSearch may well look at the first: the rules make them alike.
                    shown[x] = isShown(x, members.get(members.size() - 1));
                }
                table.add(shown);
            }
        }
        return table;
    }

    private boolean[] row(int k) {
        need(0 <= k && k < classes().size());
        return table().get(k);
    }

    private static int leastTrue(boolean[] row) {
        for (int x = 0; x < row.length; x++) {
            if (row[x]) {
                return x;
            }
        }
        return -1;
    }

    private int cut(int assignment) {
        return Math.floorMod(assignment, 1 << inputs);
    }

    int faults() {
        return classes().size();
    }

    int fault(int k, int what) {
        need(0 <= k && k < faults() && 0 <= what && what <= 3);
        Fault first = classes().get(k).get(0);
        return new int[] {first.net, first.pin, first.v, classes().get(k).size()}[what];
    }

    int classOf(int net, int pin, int v) {
        need(isNet(net) && pin >= -1 && pin < nets.get(net).pins() && isBit(v));
        for (int k = 0; k < faults(); k++) {
            if (classes().get(k).contains(new Fault(net, pin, v))) {
                return k;
            }
        }
        throw new AssertionError("a fault without a class");
    }

    int test(int k) {
        return leastTrue(row(k));
    }

    boolean shows(int assignment, int k) {
        return row(k)[cut(assignment)];
    }

    int shown(int k) {
        int many = 0;
        for (boolean is : row(k)) {
            many += is ? 1 : 0;
        }
        return many;
    }

    private boolean isFound(int k) {
        for (int assignment : simulated) {
            if (shows(assignment, k)) {
                return true;
            }
        }
        return false;
    }

    private int foundCount() {
        int many = 0;
        for (int k = 0; k < faults(); k++) {
            many += isFound(k) ? 1 : 0;
        }
        return many;
    }

    int run() {
        List<Integer> made = new ArrayList<>();
        for (int k = 0; k < faults(); k++) {
            if (!isFound(k) && test(k) != -1) {
                made.add(test(k));
                simulated.add(test(k));
            }
        }
        tests = made;
        return made.size();
    }

    int pattern(int i) {
        need(tests != null && 0 <= i && i < tests.size());
        return tests.get(i);
    }

    int simulate(int assignment) {
        int before = foundCount();
        simulated.add(assignment);
        return foundCount() - before;
    }

    int left(int i) {
        need(i >= 0);
        List<Integer> open = new ArrayList<>();
        for (int k = 0; k < faults(); k++) {
            if (!isFound(k)) {
                open.add(k);
            }
        }
        return i < open.size() ? open.get(i) : -1;
    }

    void reset() {
        simulated.clear();
    }

    int slow(int net, int v, int which) {
        need(isNet(net) && isBit(v) && isBit(which));
        int before = -1;
        int showing = -1;
        for (int x = (1 << inputs) - 1; x >= 0; x--) {
            before = value(net, x) == 1 - v ? x : before;
            showing = isShown(x, new Fault(net, -1, 1 - v)) ? x : showing;
        }
        return before == -1 || showing == -1 ? -1 : which == 0 ? before : showing;
    }

    int count(int what) {
        need(0 <= what && what <= 5);
        switch (what) {
            case 0:
                return nets.size();
            case 1:
                return inputs;
            case 2:
                return outputs.size();
            case 3:
                return foundCount();
            case 4:
                return tests == null ? 0 : tests.size();
            default:
                int many = 0;
                for (int k = 0; k < faults(); k++) {
                    many += test(k) == -1 ? 1 : 0;
                }
                return many;
        }
    }

    void clear() {
        nets.clear();
        outputs.clear();
        inputs = 0;
        changed();
    }
}
