import java.lang.reflect.InvocationTargetException;
import java.lang.reflect.Method;
import java.util.ArrayList;
import java.util.Arrays;
import java.util.List;
import java.util.Random;

/** Runs of calls drawn from fixed seeds, FaultSearch's answers held against Model's. */
public final class ModelTest {
    /** Behind the 512th call of an object nothing is promised. */
    private static final int CALLS = 512;
    private static final int[] EDGES = {
        -2, -1, 0, 1, 2, 5, 6, 7, 10, 12, 99, 100, 101, 1023, 1024, Integer.MAX_VALUE, Integer.MIN_VALUE
    };
    private static final String[] ASKING = {
        "value", "faults", "fault", "classOf", "test", "shows", "shown", "run", "pattern", "simulate", "left", "reset",
        "slow", "count", "clear"
    };

    private record Call(String name, Object... args) {
    }

    private final Check check;
    private final Random random;
    private final Model model = new Model();
    private final String title;
    private final List<Call> building = new ArrayList<>();
    private FaultSearch search = new FaultSearch();
    private int calls;

    private ModelTest(Check check, String title, long seed) {
        this.check = check;
        this.title = title;
        this.random = new Random(seed);
    }

    private static Method method(Class<?> of, String name) {
        for (Method method : of.getDeclaredMethods()) {
            if (method.getName().equals(name)) {
                return method;
            }
        }
        throw new AssertionError(of + " has no " + name);
    }

    private static String answer(Object x, String name, Object[] args) {
        try {
            return String.valueOf(method(x.getClass(), name).invoke(x, args));
        } catch (InvocationTargetException e) {
            return "throws." + e.getCause().getClass().getSimpleName();
        } catch (IllegalAccessException e) {
            throw new AssertionError(e);
        }
    }

    private void call(String name, Object... args) {
        calls++;
        if (calls > CALLS) {
            throw new AssertionError(title + " calls too often");
        }
        String got = answer(search, name, args);
        check.same(title + " " + name + Arrays.toString(args), got, answer(model, name, args));
    }

    private void build(String name, Object... args) {
        call(name, args);
        building.add(new Call(name, args));
    }

    /** Takes a new object of the same chip where the old one has no room for so many calls. */
    private void makeRoomFor(int more) {
        if (calls + more > CALLS) {
            search = new FaultSearch();
            calls = building.size();
            for (Call call : building) {
                answer(search, call.name, call.args);
            }
        }
    }

    /** Mostly below the bound, now and then an edge. */
    private int draw(int bound) {
        if (random.nextInt(25) == 0) {
            return EDGES[random.nextInt(EDGES.length)];
        }
        return random.nextInt(Math.max(1, bound));
    }

    private int drawNet() {
        int nets = model.count(0);
        // The newest nets more often, so that chips grow deep and nets with one taker are common.
        return random.nextBoolean() ? draw(nets) : nets - 1 - draw(Math.min(nets, 4));
    }

    private void grow() {
        int choice = random.nextInt(8);
        if (choice == 0) {
            call("input");
        } else if (choice == 1) {
            call("output", drawNet());
        } else {
            call("gate", draw(7), drawNet(), drawNet());
        }
    }

    private void ask() {
        int k = draw(model.faults() + 1);
        int assignment = random.nextInt(4) == 0 ? random.nextInt() : draw(1 << model.count(1));
        int bit = draw(2);
        String name = ASKING[random.nextInt(ASKING.length)];
        switch (name) {
            case "value" -> call(name, drawNet(), assignment);
            case "fault" -> call(name, k, draw(4));
            case "classOf" -> call(name, drawNet(), draw(3) - 1, bit);
            case "test", "shown" -> call(name, k);
            case "shows" -> call(name, assignment, k);
            case "pattern", "left", "count" -> call(name, draw(6));
            case "simulate" -> call(name, assignment);
            case "slow" -> call(name, drawNet(), bit, draw(2));
            case "clear" -> call(random.nextInt(12) == 0 ? name : "run");
            default -> call(name);
        }
    }

    /** All that the class tells of the chip as it stands. */
    private void askAll() {
        makeRoomFor(1);
        call("faults");
        for (int k = 0; k < model.faults(); k++) {
            askClass(k);
        }
        for (int net = 0; net < model.count(0); net++) {
            askNet(net);
        }
        // So many that it is a new object, whose classes have been asked for by nothing yet.
        makeRoomFor(CALLS - building.size());
        call("simulate", random.nextInt());
        call("run");
        for (int what = 0; what < 6; what++) {
            call("count", what);
        }
        for (int i = 0; i <= model.count(4); i++) {
            call("pattern", i);
        }
        for (int i = 0; i < 8; i++) {
            call("left", i);
        }
    }

    private void askClass(int k) {
        makeRoomFor(7);
        for (int what = 0; what < 4; what++) {
            call("fault", k, what);
        }
        call("test", k);
        call("shown", k);
        call("shows", random.nextInt(), k);
    }

    private void askNet(int net) {
        makeRoomFor(12);
        for (int v = 0; v < 2; v++) {
            for (int pin = -1; pin < 3; pin++) {
                call("classOf", net, pin, v);
            }
            call("slow", net, v, 0);
            call("slow", net, v, 1);
        }
    }

    private void mixed() {
        int inputs = random.nextInt(5);
        for (int i = 0; i < inputs; i++) {
            call("input");
        }
        // The share of growing calls differs: some chips stay small and are asked much.
        int share = 2 + random.nextInt(5);
        for (int i = inputs; i < CALLS; i++) {
            if (random.nextInt(share) == 0 && model.count(0) < 25 && model.count(1) < 6) {
                grow();
            } else {
                ask();
            }
        }
    }

    private void big(int inputs, int nets, int outputs) {
        for (int i = 0; i < inputs; i++) {
            build("input");
        }
        for (int i = inputs; i < nets; i++) {
            build("gate", random.nextInt(7), drawNet(), drawNet());
        }
        for (int i = 0; i < outputs; i++) {
            build("output", drawNet());
        }
        askAll();
    }

    public static void main(String[] args) {
        Check check = new Check("ModelTest");
        for (int seed = 1; seed <= 400; seed++) {
            new ModelTest(check, "mixed " + seed, seed).mixed();
        }
        for (int inputs = 1; inputs <= 10; inputs++) {
            for (int seed = 1; seed <= 6; seed++) {
                String title = "big " + inputs + " " + seed;
                new ModelTest(check, title, 1000L * inputs + seed).big(inputs, inputs + 7 * seed, 1 + 2 * seed);
            }
        }
        new ModelTest(check, "full 1", 77).big(10, 100, 12);
        new ModelTest(check, "full 2", 78).big(1, 100, 12);
        new ModelTest(check, "full 3", 79).big(10, 110, 13);
        check.end();
    }
}
