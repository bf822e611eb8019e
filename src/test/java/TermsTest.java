/**
 * The sentences of "What it is" and "Terms" in their order, a method for each, mostly on an adder whose classes,
 * tests and runs are worked out by hand.
 */
public final class TermsTest {
    private static final Class<IndexOutOfBoundsException> INDEX = IndexOutOfBoundsException.class;
    private static final Class<IllegalStateException> STATE = IllegalStateException.class;
    private static final Class<IllegalArgumentException> ARGUMENT = IllegalArgumentException.class;
    private static final int NONE = FaultSearch.NONE;

    /** By class numbers: net, pin, stuck at, how many faults, the test, how many assignments show it. */
    private static final int[][] ADDER = {
        {0, NONE, 0, 1, 1, 4}, {0, NONE, 1, 1, 0, 4},
        {1, NONE, 0, 1, 2, 4}, {1, NONE, 1, 1, 0, 4},
        {2, NONE, 0, 1, 4, 4}, {2, NONE, 1, 1, 0, 4},
        {3, NONE, 0, 1, 1, 4}, {3, NONE, 1, 1, 0, 4},
        {3, 0, 0, 1, 1, 4}, {3, 0, 1, 1, 0, 4}, {3, 1, 0, 1, 2, 4}, {3, 1, 1, 1, 0, 4},
        {4, NONE, 0, 1, 1, 4}, {4, NONE, 1, 1, 0, 4},
        {4, 0, 0, 1, 1, 4}, {4, 0, 1, 1, 0, 4}, {4, 1, 0, 1, 4, 4}, {4, 1, 1, 1, 0, 4},
        {5, NONE, 0, 4, 3, 2}, {5, NONE, 1, 5, 0, 4}, {5, 0, 1, 1, 2, 1}, {5, 1, 1, 1, 1, 1},
        {6, NONE, 0, 4, 5, 2}, {6, 0, 1, 1, 4, 1}, {6, 1, 1, 1, 1, 2},
        {7, NONE, 0, 1, 3, 4}
    };

    /** The classes of the adder that have more faults than one: each row the net, pin and value of all of them. */
    private static final int[][][] TOGETHER = {
        {{5, NONE, 0}, {5, 0, 0}, {5, 1, 0}, {7, 0, 0}},
        {{5, NONE, 1}, {6, NONE, 1}, {7, NONE, 1}, {7, 0, 1}, {7, 1, 1}},
        {{6, NONE, 0}, {6, 0, 0}, {6, 1, 0}, {7, 1, 0}}
    };

    /** The tests of a run of the adder, and how many classes each of them finds. */
    private static final int[] ADDER_TESTS = {1, 0, 2, 4, 3, 5};
    private static final int[] ADDER_NEWS = {12, 5, 3, 3, 2, 1};

    private static final Check CHECK = new Check("TermsTest");

    private TermsTest() {
    }

    private static void nets() {
        CHECK.about("NETS have numbers 0, 1, .. as they come: an INPUT (numbered likewise), or a GATE's");
        FaultSearch x = new FaultSearch();
        CHECK.is("input()", x.input(), 0);
        CHECK.is("gate(5, 0, 0)", x.gate(5, 0, 0), 1);
        CHECK.is("input()", x.input(), 2);
        CHECK.is("gate(0, 1, 2)", x.gate(0, 1, 2), 3);
        CHECK.is("count(0)", x.count(0), 4);
        CHECK.is("count(1)", x.count(1), 2);
        CHECK.refuses("gate(0, 4, 0): of nets before it", INDEX, () -> x.gate(0, 4, 0));
    }

    /** As many calls as are promised, each of them still as due, and the refused ones count as calls, too. */
    private static void calls() {
        CHECK.about("An object is used for at most 512 calls after it has been made");
        FaultSearch x = Chips.adder();
        int made = 10;
        while (made + 6 <= 512) {
            CHECK.is("simulate(1) as call " + (made + 1), x.simulate(1), 12);
            CHECK.is("run() as call " + (made + 2), x.run(), 5);
            CHECK.is("pattern(0) as call " + (made + 3), x.pattern(0), 0);
            CHECK.refuses("pattern(5) as call " + (made + 4), INDEX, () -> x.pattern(5));
            CHECK.is("test(22) as call " + (made + 5), x.test(22), 5);
            x.reset();
            made += 6;
        }
        for (int call = made + 1; call <= 512; call++) {
            CHECK.is("value(7, 6) as call " + call, x.value(7, 6), 1);
        }
    }

    private static void kinds() {
        CHECK.about("0 AND, 1 OR, 2 XOR, 3 NOT AND, 4 NOT OR, 5 NOT of the first one, 6 the first one");
        // Behind copies, so that a gate of gates is told, not one of inputs; columns: both 0, first, second, both 1.
        int[][] due = {
            {0, 0, 0, 1}, {0, 1, 1, 1}, {0, 1, 1, 0}, {1, 1, 1, 0}, {1, 0, 0, 0}, {1, 0, 1, 0}, {0, 1, 0, 1}
        };
        FaultSearch x = Chips.withInputs(2);
        x.gate(6, 0, NONE);
        x.gate(6, 1, NONE);
        for (int kind = 0; kind < 7; kind++) {
            int net = x.gate(kind, 2, 3);
            for (int assignment = 0; assignment < 4; assignment++) {
                CHECK.is("kind " + kind + " in " + assignment, x.value(net, assignment), due[kind][assignment]);
            }
        }
    }

    private static void pins() {
        CHECK.about("5 and 6 have one PIN, pin 0, others pins 0 and 1");
        for (int kind = 0; kind < 7; kind++) {
            FaultSearch x = Chips.oneGate(kind);
            x.output(0);
            x.output(1);
            CHECK.is("pin 0 of kind " + kind + " is a line", x.classOf(2, 0, 0) > 3, true);
            CHECK.refuses("pin 2 of kind " + kind, INDEX, () -> x.classOf(2, 2, 0));
            if (kind < 5) {
                CHECK.is("pin 1 of kind " + kind + " is a line", x.classOf(2, 1, 0) > 3, true);
            } else {
                CHECK.refuses("pin 1 of kind " + kind, INDEX, () -> x.classOf(2, 1, 0));
            }
        }
    }

    private static void outputs() {
        CHECK.about("OUTPUTS are nets, numbered likewise (12 at most)");
        FaultSearch x = Chips.adder();
        for (int number = 2; number < 12; number++) {
            CHECK.is("output " + number, x.output(number % 8), number);
        }
        CHECK.is("count(2)", x.count(2), 12);
        CHECK.refuses("output 12", STATE, () -> x.output(0));
    }

    private static void assignments() {
        CHECK.about("AN ASSIGNMENT gives each input 0 or 1: as a number input k is bit k");
        FaultSearch x = Chips.adder();
        for (int assignment = 0; assignment < 8; assignment++) {
            for (int input = 0; input < 3; input++) {
                CHECK.is("input " + input + " in " + assignment, x.value(input, assignment), assignment >> input & 1);
            }
            int ones = Integer.bitCount(assignment);
            CHECK.is("sum in " + assignment, x.value(4, assignment), ones % 2);
            CHECK.is("carry in " + assignment, x.value(7, assignment), ones / 2);
        }
    }

    private static void lines() {
        CHECK.about("LINES are nets, and pins of gates; a FAULT is a line STUCK at 0 or 1");
        FaultSearch x = Chips.adder();
        int faults = 0;
        for (int k = 0; k < x.faults(); k++) {
            faults += x.fault(k, 3);
        }
        // Eight nets and five gates of two pins, each stuck at 0 and at 1.
        CHECK.is("faults of all classes", faults, 2 * (8 + 5 * 2));
    }

    private static void stuck() {
        CHECK.about("a stuck net has that value for all that take it and as output, whatever its gate tells");
        FaultSearch x = Chips.adder();
        // Net 3 at 1 in 4: the sum goes to 0 and the carry to 1; both take it.
        CHECK.is("net 3 at 1 in 4", x.shows(4, x.classOf(3, NONE, 1)), true);
        CHECK.is("net 4 at 0 in 1, an output", x.shows(1, x.classOf(4, NONE, 0)), true);
        CHECK.is("net 4 at 0 in 3, where it is 0", x.shows(3, x.classOf(4, NONE, 0)), false);

        CHECK.about("a stuck pin has it for its gate alone");
        // Input 0 at 1 in 0: the sum changes; at the pin of net 5 alone nothing does, for net 1 is 0.
        CHECK.is("input 0 at 1 in 0", x.shows(0, x.classOf(0, NONE, 1)), true);
        CHECK.is("pin 0 of net 5 at 1 in 0", x.shows(0, x.classOf(5, 0, 1)), false);
        CHECK.is("pin 0 of net 3 at 1 in 0", x.shows(0, x.classOf(3, 0, 1)), true);
        // In 6 net 3 is 1 already, so that the carry is 1 with the pin and without it.
        CHECK.is("pin 0 of net 5 at 1 in 6", x.shows(6, x.classOf(5, 0, 1)), false);
        CHECK.is("pin 0 of net 5 at 1 in 2", x.shows(2, x.classOf(5, 0, 1)), true);
    }

    private static void shown() {
        CHECK.about("A fault is SHOWN by an assignment if some output is another one with it than without");
        FaultSearch x = Chips.adder();
        for (int k = 0; k < ADDER.length; k++) {
            CHECK.is("shown(" + k + ")", x.shown(k), ADDER[k][5]);
            int many = 0;
            for (int assignment = 0; assignment < 8; assignment++) {
                many += x.shows(assignment, k) ? 1 : 0;
            }
            CHECK.is("assignments that show class " + k, many, ADDER[k][5]);
        }
    }

    private static void classes() {
        CHECK.about("FAULTS are of one CLASS by these rules, and over others");
        FaultSearch x = Chips.adder();
        for (int[][] members : TOGETHER) {
            int k = x.classOf(members[0][0], members[0][1], members[0][2]);
            CHECK.is("faults of class " + k, x.fault(k, 3), members.length);
            for (int[] fault : members) {
                CHECK.is("classOf net " + fault[0] + " pin " + fault[1] + " at " + fault[2],
                        x.classOf(fault[0], fault[1], fault[2]), k);
            }
        }
    }

    /** One gate of each kind: a pin, the net it takes and the gate's net. */
    private static void classesOfKinds() {
        // By kinds: in which class pin 0 at 0, pin 0 at 1, the gate's net at 0 and at 1 are.
        int[][] due = {
            {0, 1, 0, 3}, {0, 1, 3, 1}, {0, 1, 4, 5}, {0, 1, 3, 0}, {0, 1, 1, 3}, {0, 1, 1, 0}, {0, 1, 0, 1}
        };
        String[] rules = {
            "AND: 0 and 0", "OR: 1 and 1", "XOR: none", "NOT AND: 0 and 1", "NOT OR: 1 and 0", "NOT: v and 1 - v",
            "kind 6: v and v"
        };
        for (int kind = 0; kind < 7; kind++) {
            CHECK.about("a pin stuck and its gate's net stuck; " + rules[kind]);
            FaultSearch x = Chips.oneGate(kind);
            CHECK.is("pin 0 at 0", x.classOf(2, 0, 0), due[kind][0]);
            CHECK.is("pin 0 at 1", x.classOf(2, 0, 1), due[kind][1]);
            CHECK.is("net 2 at 0", x.classOf(2, NONE, 0), due[kind][2]);
            CHECK.is("net 2 at 1", x.classOf(2, NONE, 1), due[kind][3]);
            CHECK.about("a net that just one pin takes, and that is no output");
            CHECK.is("net 0 at 0", x.classOf(0, NONE, 0), due[kind][0]);
            CHECK.is("net 0 at 1", x.classOf(0, NONE, 1), due[kind][1]);
        }
        CHECK.about("A net that is at two pins of a gate is taken by two");
        FaultSearch twice = Chips.metItself(0);
        CHECK.is("net 0 at 0 is of no class with a pin", twice.fault(twice.classOf(0, NONE, 0), 3), 1);
    }

    private static void order() {
        CHECK.about("THE ORDER of faults: by nets, a pin with its gate's net; Classes have numbers by first faults");
        FaultSearch x = Chips.adder();
        CHECK.is("faults()", x.faults(), ADDER.length);
        for (int k = 0; k < ADDER.length; k++) {
            for (int what = 0; what < 4; what++) {
                CHECK.is("fault(" + k + ", " + what + ")", x.fault(k, what), ADDER[k][what]);
            }
            CHECK.is("classOf its first fault", x.classOf(ADDER[k][0], ADDER[k][1], ADDER[k][2]), k);
        }
    }

    private static void tests() {
        CHECK.about("THE TEST of a class is the least assignment that shows it; UNTESTABLE if none does");
        FaultSearch x = Chips.adder();
        for (int k = 0; k < ADDER.length; k++) {
            CHECK.is("test(" + k + ")", x.test(k), ADDER[k][4]);
            CHECK.is("shows(its test, " + k + ")", x.shows(ADDER[k][4], k), true);
            for (int less = 0; less < ADDER[k][4]; less++) {
                CHECK.is("shows(" + less + ", " + k + "), less than its test", x.shows(less, k), false);
            }
        }
        CHECK.is("count(5)", x.count(5), 0);
        FaultSearch blind = Chips.withInputs(3);
        CHECK.is("test(0) without outputs", blind.test(0), NONE);
        CHECK.is("count(5) without outputs", blind.count(5), 6);
    }

    private static void found() {
        CHECK.about("FOUND when an assignment shows it, SIMULATED since nets, gates or outputs came, or reset()");
        FaultSearch x = Chips.adder();
        int sum = 0;
        for (int i = 0; i < ADDER_TESTS.length; i++) {
            CHECK.is("simulate(" + ADDER_TESTS[i] + ")", x.simulate(ADDER_TESTS[i]), ADDER_NEWS[i]);
            sum += ADDER_NEWS[i];
            CHECK.is("count(3)", x.count(3), sum);
        }
        x.reset();
        CHECK.is("count(3) behind reset()", x.count(3), 0);
        CHECK.is("simulate(1) behind reset()", x.simulate(1), 12);
        x.output(7);
        CHECK.is("count(3) behind an output", x.count(3), 0);
        CHECK.is("simulate(1) behind an output", x.simulate(1), 12);
        x.gate(5, 7, NONE);
        CHECK.is("count(3) behind a gate", x.count(3), 0);
        CHECK.is("simulate(1) behind a gate", x.simulate(1), 12);
        x.input();
        CHECK.is("count(3) behind a net", x.count(3), 0);
    }

    private static void runs() {
        CHECK.about("RUN: of each class that is not found by then its test is the next one, and simulated");
        FaultSearch x = Chips.adder();
        CHECK.is("run()", x.run(), ADDER_TESTS.length);
        for (int i = 0; i < ADDER_TESTS.length; i++) {
            CHECK.is("pattern(" + i + ")", x.pattern(i), ADDER_TESTS[i]);
        }
        CHECK.is("count(3)", x.count(3), ADDER.length);
        CHECK.is("left(0)", x.left(0), NONE);
        x.reset();
        // 7 finds classes 0, 2, 4, 7, 8, 10, 12, 15, 16, 18 and 25.
        CHECK.is("simulate(7)", x.simulate(7), 11);
        CHECK.is("run() behind simulate(7)", x.run(), 5);
        int[] due = {0, 1, 2, 5, 4};
        for (int i = 0; i < due.length; i++) {
            CHECK.is("pattern(" + i + ") behind simulate(7)", x.pattern(i), due[i]);
        }
    }

    private static void slow() {
        CHECK.about("slow to become v: the least that shows the net stuck at 1 - v, before it the least with 1 - v");
        // By nets: the pair for 0 and the pair for 1, each the one before and the one that shows.
        int[][] due = {
            {1, 0, 0, 1}, {2, 0, 0, 2}, {4, 0, 0, 4}, {1, 0, 0, 1},
            {1, 0, 0, 1}, {3, 0, 0, 3}, {5, 0, 0, 5}, {3, 0, 0, 3}
        };
        FaultSearch x = Chips.adder();
        for (int net = 0; net < due.length; net++) {
            for (int v = 0; v < 2; v++) {
                String of = "slow(" + net + ", " + v + ", ";
                int before = x.slow(net, v, 0);
                int showing = x.slow(net, v, 1);
                CHECK.is(of + "0)", before, due[net][2 * v]);
                CHECK.is(of + "1)", showing, due[net][2 * v + 1]);
                CHECK.is("it should change from", x.value(net, before), 1 - v);
                CHECK.is("it should change to", x.value(net, showing), v);
                CHECK.is("as if stuck: shown", x.shows(showing, x.classOf(net, NONE, 1 - v)), true);
            }
        }
    }

    private static void namedFirst() {
        CHECK.about("Methods throw what their comments name, the one named first when several would do");
        FaultSearch x = Chips.full();
        CHECK.refuses("gate: no such net, 100 nets, no such kind", INDEX, () -> x.gate(9, 100, 0));
        CHECK.refuses("gate: 100 nets, no such kind", STATE, () -> x.gate(9, 0, 0));
        CHECK.refuses("gate: no such kind", ARGUMENT, () -> Chips.adder().gate(9, 0, 0));
        CHECK.refuses("output: no such net, 12 outputs", INDEX, () -> x.output(100));
        CHECK.refuses("output: 12 outputs", STATE, () -> x.output(0));
        CHECK.refuses("input: 10 inputs", STATE, x::input);
    }

    private static void noSuch() {
        CHECK.about("IndexOutOfBoundsException: there is no such net, pin, class, output, test, value or what");
        FaultSearch x = Chips.adder();
        x.run();
        CHECK.refuses("net 8", INDEX, () -> x.value(8, 0));
        CHECK.refuses("pin 2", INDEX, () -> x.classOf(7, 2, 0));
        CHECK.refuses("class 26", INDEX, () -> x.shown(26));
        CHECK.refuses("output of net 8", INDEX, () -> x.output(8));
        CHECK.refuses("test 6", INDEX, () -> x.pattern(6));
        CHECK.refuses("value 2", INDEX, () -> x.slow(7, 2, 0));
        CHECK.refuses("what 6", INDEX, () -> x.count(6));

        CHECK.about("A call that throws changes nothing");
        CHECK.same("all that can be asked", Answers.asked(x).toString(), Answers.asked(ranAdder()).toString());
    }

    private static FaultSearch ranAdder() {
        FaultSearch x = Chips.adder();
        x.run();
        return x;
    }

    public static void main(String[] args) {
        nets();
        calls();
        kinds();
        pins();
        outputs();
        assignments();
        lines();
        stuck();
        shown();
        classes();
        classesOfKinds();
        order();
        tests();
        found();
        runs();
        slow();
        namedFirst();
        noSuch();
        CHECK.end();
    }
}
