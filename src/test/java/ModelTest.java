import java.util.Random;

/** Runs of calls drawn from fixed seeds, FaultSearch's answers held against Model's. */
public final class ModelTest {
    private static final int CALLS = 512;
    private static final int[] EDGES = {
        -2, -1, 0, 1, 2, 5, 6, 7, 10, 12, 99, 100, 101, 1023, 1024, Integer.MAX_VALUE, Integer.MIN_VALUE
    };
    private static final String[] NAMES = {
        "input", "gate", "output", "value", "faults", "fault", "classOf", "test", "shows", "shown", "run",
        "pattern", "simulate", "left", "reset", "slow", "count", "clear"
    };

    private final Check check;
    private final Random random;
    private final FaultSearch search = new FaultSearch();
    private final Model model = new Model();
    private final String title;

    private ModelTest(Check check, String title, long seed) {
        this.check = check;
        this.title = title;
        this.random = new Random(seed);
    }

    private static String told(RuntimeException e) {
        return "throws." + e.getClass().getSimpleName();
    }

    private static String ofSearch(FaultSearch x, int op, int a, int b, int c) {
        try {
            switch (op) {
                case 0: return "" + x.input();
                case 1: return "" + x.gate(a, b, c);
                case 2: return "" + x.output(a);
                case 3: return "" + x.value(a, b);
                case 4: return "" + x.faults();
                case 5: return "" + x.fault(a, b);
                case 6: return "" + x.classOf(a, b, c);
                case 7: return "" + x.test(a);
                case 8: return "" + x.shows(a, b);
                case 9: return "" + x.shown(a);
                case 10: return "" + x.run();
                case 11: return "" + x.pattern(a);
                case 12: return "" + x.simulate(a);
                case 13: return "" + x.left(a);
                case 14: x.reset(); return "done";
                case 15: return "" + x.slow(a, b, c);
                case 16: return "" + x.count(a);
                default: x.clear(); return "done";
            }
        } catch (RuntimeException e) {
            return told(e);
        }
    }

    private static String ofModel(Model x, int op, int a, int b, int c) {
        try {
            switch (op) {
                case 0: return "" + x.input();
                case 1: return "" + x.gate(a, b, c);
                case 2: return "" + x.output(a);
                case 3: return "" + x.value(a, b);
                case 4: return "" + x.faults();
                case 5: return "" + x.fault(a, b);
                case 6: return "" + x.classOf(a, b, c);
                case 7: return "" + x.test(a);
                case 8: return "" + x.shows(a, b);
                case 9: return "" + x.shown(a);
                case 10: return "" + x.run();
                case 11: return "" + x.pattern(a);
                case 12: return "" + x.simulate(a);
                case 13: return "" + x.left(a);
                case 14: x.reset(); return "done";
                case 15: return "" + x.slow(a, b, c);
                case 16: return "" + x.count(a);
                default: x.clear(); return "done";
            }
        } catch (RuntimeException e) {
            return told(e);
        }
    }

    private void call(int op, int a, int b, int c) {
        String name = title + " " + NAMES[op] + "(" + a + ", " + b + ", " + c + ")";
        check.same(name, ofSearch(search, op, a, b, c), ofModel(model, op, a, b, c));
    }

    /** Mostly below the bound, now and then an edge. */
    private int draw(int bound) {
        if (random.nextInt(25) == 0) {
            return EDGES[random.nextInt(EDGES.length)];
        }
        return random.nextInt(Math.max(1, bound));
    }

    private int drawNet() {
        int nets = model.count(0);
        // The newest nets more often, so that chips grow deep and nets with one taker are common.
        return random.nextBoolean() ? draw(nets) : nets - 1 - draw(Math.min(nets, 4));
    }

    private void grow() {
        int choice = random.nextInt(8);
        if (choice == 0) {
            call(0, 0, 0, 0);
        } else if (choice == 1) {
            call(2, drawNet(), 0, 0);
        } else {
            call(1, draw(7), drawNet(), drawNet());
        }
    }

    private void ask() {
        int k = draw(model.faults() + 1);
        int assignment = random.nextInt(4) == 0 ? random.nextInt() : draw(1 << model.count(1));
        int bit = draw(2);
        int op = 3 + random.nextInt(15);
        switch (op) {
            case 3 -> call(op, drawNet(), assignment, 0);
            case 5 -> call(op, k, draw(4), 0);
            case 6 -> call(op, drawNet(), draw(3) - 1, bit);
            case 7, 9 -> call(op, k, 0, 0);
            case 8 -> call(op, assignment, k, 0);
            case 11, 13 -> call(op, draw(6), 0, 0);
            case 12 -> call(op, assignment, 0, 0);
            case 15 -> call(op, drawNet(), bit, draw(2));
            case 16 -> call(op, draw(6), 0, 0);
            case 17 -> call(random.nextInt(12) == 0 ? 17 : 10, 0, 0, 0);
            default -> call(op, 0, 0, 0);
        }
    }

    /** All that the class tells of the chip as it stands. */
    private void askAll() {
        call(4, 0, 0, 0);
        for (int k = 0; k < model.faults(); k++) {
            for (int what = 0; what < 4; what++) {
                call(5, k, what, 0);
            }
            call(7, k, 0, 0);
            call(9, k, 0, 0);
            call(8, random.nextInt(), k, 0);
        }
        for (int net = 0; net < model.count(0); net++) {
            for (int v = 0; v < 2; v++) {
                for (int pin = -1; pin < 3; pin++) {
                    call(6, net, pin, v);
                }
                call(15, net, v, 0);
                call(15, net, v, 1);
            }
        }
        call(12, random.nextInt(), 0, 0);
        call(10, 0, 0, 0);
        for (int what = 0; what < 6; what++) {
            call(16, what, 0, 0);
        }
        for (int i = 0; i <= model.count(4); i++) {
            call(11, i, 0, 0);
        }
        for (int i = 0; i < 8; i++) {
            call(13, i, 0, 0);
        }
    }

    private void mixed() {
        int inputs = random.nextInt(5);
        for (int i = 0; i < inputs; i++) {
            call(0, 0, 0, 0);
        }
        // The share of growing calls differs: some chips stay small and are asked much.
        int share = 2 + random.nextInt(5);
        for (int i = inputs; i < CALLS; i++) {
            if (random.nextInt(share) == 0 && model.count(0) < 25 && model.count(1) < 6) {
                grow();
            } else {
                ask();
            }
        }
    }

    private void big(int inputs, int nets, int outputs) {
        for (int i = 0; i < inputs; i++) {
            call(0, 0, 0, 0);
        }
        for (int i = inputs; i < nets; i++) {
            call(1, random.nextInt(7), drawNet(), drawNet());
        }
        for (int i = 0; i < outputs; i++) {
            call(2, drawNet(), 0, 0);
        }
        askAll();
    }

    public static void main(String[] args) {
        Check check = new Check("ModelTest");
        for (int seed = 1; seed <= 400; seed++) {
            new ModelTest(check, "mixed " + seed, seed).mixed();
        }
        for (int inputs = 1; inputs <= 10; inputs++) {
            for (int seed = 1; seed <= 6; seed++) {
                String title = "big " + inputs + " " + seed;
                new ModelTest(check, title, 1000L * inputs + seed).big(inputs, inputs + 7 * seed, 1 + 2 * seed);
            }
        }
        new ModelTest(check, "full 1", 77).big(10, 100, 12);
        new ModelTest(check, "full 2", 78).big(1, 100, 12);
        new ModelTest(check, "full 3", 79).big(10, 110, 13);
        check.end();
    }
}
