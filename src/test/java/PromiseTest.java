/** One method for each promise, with answers worked out by hand from the document. */
public final class PromiseTest {
    private static final Class<IndexOutOfBoundsException> INDEX = IndexOutOfBoundsException.class;
    private static final Class<IllegalStateException> STATE = IllegalStateException.class;
    private static final Class<IllegalArgumentException> ARGUMENT = IllegalArgumentException.class;
    private static final int NONE = FaultSearch.NONE;
    private static final int[] WRONG_NUMBERS = {Integer.MIN_VALUE, -2, -1, Integer.MAX_VALUE};

    private static final Check CHECK = new Check("PromiseTest");

    private PromiseTest() {
    }

    private static void counts(String when, FaultSearch x, int... due) {
        for (int what = 0; what < due.length; what++) {
            CHECK.is(when + " count(" + what + ")", x.count(what), due[what]);
        }
    }

    private static void patterns(String when, FaultSearch x, int... due) {
        CHECK.is(when + " count(4)", x.count(4), due.length);
        for (int i = 0; i < due.length; i++) {
            CHECK.is(when + " pattern(" + i + ")", x.pattern(i), due[i]);
        }
        CHECK.refuses(when + " pattern behind the last", INDEX, () -> x.pattern(due.length));
        CHECK.refuses(when + " pattern(-1)", INDEX, () -> x.pattern(-1));
    }

    private static void fault(FaultSearch x, int k, int net, int pin, int v, int members) {
        CHECK.is("fault(" + k + ", 0)", x.fault(k, 0), net);
        CHECK.is("fault(" + k + ", 1)", x.fault(k, 1), pin);
        CHECK.is("fault(" + k + ", 2)", x.fault(k, 2), v);
        CHECK.is("fault(" + k + ", 3)", x.fault(k, 3), members);
    }

    private static void classTests(FaultSearch x, int... due) {
        CHECK.is("faults()", x.faults(), due.length);
        for (int k = 0; k < due.length; k++) {
            CHECK.is("test(" + k + ")", x.test(k), due[k]);
        }
    }

    private static void left(String when, FaultSearch x, int... due) {
        for (int i = 0; i < due.length; i++) {
            CHECK.is(when + " left(" + i + ")", x.left(i), due[i]);
        }
        CHECK.is(when + " left behind the last", x.left(due.length), NONE);
    }

    /** What a new object, and a cleared one, answers. */
    private static void isEmpty(String when, FaultSearch x) {
        counts(when, x, 0, 0, 0, 0, 0, 0);
        CHECK.is(when + " faults()", x.faults(), 0);
        left(when, x);
        CHECK.is(when + " simulate(5)", x.simulate(5), 0);
        CHECK.is(when + " run()", x.run(), 0);
        patterns(when, x);
        CHECK.refuses(when + " value(0, 0)", INDEX, () -> x.value(0, 0));
        CHECK.refuses(when + " fault(0, 0)", INDEX, () -> x.fault(0, 0));
        CHECK.refuses(when + " classOf(0, NONE, 0)", INDEX, () -> x.classOf(0, NONE, 0));
        CHECK.refuses(when + " test(0)", INDEX, () -> x.test(0));
        CHECK.refuses(when + " shows(0, 0)", INDEX, () -> x.shows(0, 0));
        CHECK.refuses(when + " shown(0)", INDEX, () -> x.shown(0));
        CHECK.refuses(when + " slow(0, 0, 0)", INDEX, () -> x.slow(0, 0, 0));
        CHECK.refuses(when + " output(0)", INDEX, () -> x.output(0));
        CHECK.refuses(when + " gate(0, 0, 0)", INDEX, () -> x.gate(0, 0, 0));
    }

    /** Brings a state with found classes and a run, to see that a refused call leaves it as it is. */
    private static void unchangedBy(
            String call, Class<? extends RuntimeException> due, FaultSearch x, Runnable refused) {
        x.reset();
        int tests = x.run();
        int found = x.count(3);
        int first = x.pattern(0);
        int[] sizes = {x.count(0), x.count(1), x.count(2), x.faults()};
        CHECK.refuses(call, due, refused);
        counts("after a refused " + call, x, sizes[0], sizes[1], sizes[2], found, tests);
        CHECK.is("after a refused " + call + " faults()", x.faults(), sizes[3]);
        CHECK.is("after a refused " + call + " pattern(0)", x.pattern(0), first);
    }

    private static void newObject1() {
        CHECK.is("NONE", FaultSearch.NONE, -1);
        isEmpty("new:", new FaultSearch());
        FaultSearch used = Chips.oneGate(0);
        isEmpty("new beside a used one:", new FaultSearch());
        CHECK.is("count(0) of the used one", used.count(0), 3);
    }

    private static void input2() {
        FaultSearch x = new FaultSearch();
        CHECK.is("input()", x.input(), 0);
        CHECK.is("input()", x.input(), 1);
        x.gate(5, 0, 0);
        CHECK.is("input() behind a gate", x.input(), 3);
        CHECK.is("value(3, 4): net 3 is input 2", x.value(3, 4), 1);
        CHECK.is("value(3, 8)", x.value(3, 8), 0);
        for (int i = 3; i < 10; i++) {
            CHECK.is("input()", x.input(), i + 1);
        }
        x.output(10);
        unchangedBy("11th input()", STATE, x, x::input);

        FaultSearch full = Chips.withInputs(1);
        for (int i = 1; i < 100; i++) {
            full.gate(6, i - 1, 0);
        }
        full.output(99);
        unchangedBy("input() with 100 nets", STATE, full, full::input);
    }

    private static void gate3() {
        // Bit 2 * b + a of the number is the kind's value.
        int[] truth = {0b1000, 0b1110, 0b0110, 0b0111, 0b0001, 0b0101, 0b1010};
        for (int kind = 0; kind < 7; kind++) {
            FaultSearch x = Chips.oneGate(kind);
            for (int assignment = 0; assignment < 4; assignment++) {
                CHECK.is("kind " + kind + " in " + assignment, x.value(2, assignment), truth[kind] >> assignment & 1);
            }
        }
        gateRefusals();
        FaultSearch x = Chips.withInputs(1);
        CHECK.is("gate(5, 0, 99)", x.gate(5, 0, 99), 1);
        CHECK.is("gate(6, 0, -7)", x.gate(6, 0, -7), 2);
        CHECK.is("gate(2, 1, 1)", x.gate(2, 1, 1), 3);
        for (int net = 4; net < 100; net++) {
            CHECK.is("gate to " + net, x.gate(1, 0, net - 1), net);
        }
        x.output(99);
        x.output(0);
        unchangedBy("gate(0, 0, 0) with 100 nets", STATE, x, () -> x.gate(0, 0, 0));
        CHECK.refuses("gate(7, 0, 0) with 100 nets", STATE, () -> x.gate(7, 0, 0));
        CHECK.refuses("gate(0, 100, 0) with 100 nets", INDEX, () -> x.gate(0, 100, 0));
    }

    private static void gateRefusals() {
        FaultSearch x = Chips.oneGate(0);
        unchangedBy("gate(0, 3, 0)", INDEX, x, () -> x.gate(0, 3, 0));
        unchangedBy("gate(0, 0, 3)", INDEX, x, () -> x.gate(0, 0, 3));
        unchangedBy("gate(7, 0, 1)", ARGUMENT, x, () -> x.gate(7, 0, 1));
        CHECK.refuses("gate(-1, 0, 1)", ARGUMENT, () -> x.gate(-1, 0, 1));
        CHECK.refuses("gate(5, 3, 0)", INDEX, () -> x.gate(5, 3, 0));
        CHECK.refuses("gate(6, -1, 0)", INDEX, () -> x.gate(6, -1, 0));
        CHECK.refuses("gate(7, 0, 99)", INDEX, () -> x.gate(7, 0, 99));
        CHECK.refuses("gate(-1, 99, 0)", INDEX, () -> x.gate(-1, 99, 0));
        for (int wrong : WRONG_NUMBERS) {
            CHECK.refuses("gate(0, " + wrong + ", 0)", INDEX, () -> x.gate(0, wrong, 0));
            CHECK.refuses("gate(4, 0, " + wrong + ")", INDEX, () -> x.gate(4, 0, wrong));
            CHECK.refuses("gate(" + wrong + ", 0, 0)", ARGUMENT, () -> x.gate(wrong, 0, 0));
        }
    }

    private static void output4() {
        FaultSearch x = Chips.oneGate(0);
        CHECK.is("output(2) once more", x.output(2), 1);
        CHECK.is("output(0), an input's", x.output(0), 2);
        unchangedBy("output(3)", INDEX, x, () -> x.output(3));
        for (int wrong : WRONG_NUMBERS) {
            CHECK.refuses("output(" + wrong + ")", INDEX, () -> x.output(wrong));
        }
        for (int number = 3; number < 12; number++) {
            CHECK.is("output(1)", x.output(1), number);
        }
        unchangedBy("13th output", STATE, x, () -> x.output(2));
        CHECK.refuses("13th output of no net", INDEX, () -> x.output(3));
        // Input 0 is an output, so that its pin stuck at 0 is not the net stuck at 0 any more.
        CHECK.is("classOf(0, NONE, 0)", x.classOf(0, NONE, 0), 0);
        CHECK.is("classOf(2, 0, 0)", x.classOf(2, 0, 0), 4);
    }

    private static void value5() {
        FaultSearch x = Chips.chooser();
        for (int assignment = -16; assignment < 16; assignment++) {
            int chosen = (assignment & 1) == 1 ? assignment >> 1 & 1 : assignment >> 2 & 1;
            CHECK.is("value(8, " + assignment + ")", x.value(8, assignment), chosen);
            CHECK.is("value(2, " + assignment + ")", x.value(2, assignment), assignment >> 2 & 1);
        }
        CHECK.is("value(8, MIN)", x.value(8, Integer.MIN_VALUE), 0);
        CHECK.is("value(8, MAX)", x.value(8, Integer.MAX_VALUE), 1);
        CHECK.refuses("value(9, 0)", INDEX, () -> x.value(9, 0));
        for (int wrong : WRONG_NUMBERS) {
            CHECK.refuses("value(" + wrong + ", 0)", INDEX, () -> x.value(wrong, 0));
        }
        FaultSearch ten = Chips.withInputs(10);
        for (int net = 0; net < 10; net++) {
            for (int assignment = 0; assignment < 1024; assignment += 93) {
                CHECK.is("value(" + net + ", " + assignment + ")", ten.value(net, assignment), assignment >> net & 1);
                CHECK.is("with bit 10", ten.value(net, assignment + 1024), assignment >> net & 1);
            }
        }
    }

    private static void faults6() {
        // A XOR has no rule of its own, but each input is one with the pin that takes it. Of kinds 5 and 6
        // net 0, pin 0 and net 2 make two classes; input 1 is taken by none and has two of its own.
        int[] due = {4, 4, 6, 4, 4, 4, 4};
        for (int kind = 0; kind < 7; kind++) {
            CHECK.is("faults() of kind " + kind, Chips.oneGate(kind).faults(), due[kind]);
        }
        FaultSearch x = Chips.withInputs(1);
        CHECK.is("faults() of one input", x.faults(), 2);
        x.gate(0, 0, 0);
        // Taken by two pins: net 0 stays apart; the pins stuck at 0 are one with net 1 stuck at 0.
        CHECK.is("faults() with a net at both pins", x.faults(), 6);
        FaultSearch wide = Chips.withInputs(1);
        for (int net = 1; net < 100; net++) {
            wide.gate(2, 0, 0);
        }
        CHECK.is("faults() of 99 XORs of input 0", wide.faults(), 596);
    }

    private static void fault7() {
        FaultSearch x = Chips.oneGate(0);
        fault(x, 0, 0, NONE, 0, 5);
        fault(x, 1, 0, NONE, 1, 2);
        fault(x, 2, 1, NONE, 1, 2);
        fault(x, 3, 2, NONE, 1, 1);
        FaultSearch twice = Chips.withInputs(1);
        twice.gate(4, 0, 0);
        twice.output(1);
        fault(twice, 0, 0, NONE, 0, 1);
        fault(twice, 1, 0, NONE, 1, 1);
        fault(twice, 2, 1, NONE, 0, 3);
        fault(twice, 3, 1, NONE, 1, 1);
        fault(twice, 4, 1, 0, 0, 1);
        fault(twice, 5, 1, 1, 0, 1);
        CHECK.refuses("fault(4, 0)", INDEX, () -> x.fault(4, 0));
        CHECK.refuses("fault(0, 4)", INDEX, () -> x.fault(0, 4));
        for (int wrong : WRONG_NUMBERS) {
            CHECK.refuses("fault(" + wrong + ", 0)", INDEX, () -> x.fault(wrong, 0));
            unchangedBy("fault(0, " + wrong + ")", INDEX, x, () -> x.fault(0, wrong));
        }
    }

    private static void classOf8() {
        // For each kind: the classes of pin 0 at 0 and 1, pin 1 at 0 and 1, the net at 0 and 1.
        int[][] due = {
            {0, 1, 0, 2, 0, 3}, {0, 1, 2, 1, 3, 1}, {0, 1, 2, 3, 4, 5}, {0, 1, 0, 2, 3, 0}, {0, 1, 2, 1, 1, 3},
            {0, 1, NONE, NONE, 1, 0}, {0, 1, NONE, NONE, 0, 1}
        };
        for (int kind = 0; kind < 7; kind++) {
            FaultSearch x = Chips.oneGate(kind);
            for (int v = 0; v < 2; v++) {
                int at = v;
                String where = "kind " + kind + " at " + v;
                CHECK.is(where + " pin 0", x.classOf(2, 0, v), due[kind][v]);
                CHECK.is(where + " input 0", x.classOf(0, NONE, v), due[kind][v]);
                CHECK.is(where + " net 2", x.classOf(2, NONE, v), due[kind][4 + v]);
                if (kind < 5) {
                    CHECK.is(where + " pin 1", x.classOf(2, 1, v), due[kind][2 + v]);
                    CHECK.is(where + " input 1", x.classOf(1, NONE, v), due[kind][2 + v]);
                } else {
                    CHECK.refuses(where + " pin 1", INDEX, () -> x.classOf(2, 1, at));
                    CHECK.is(where + " input 1", x.classOf(1, NONE, v), 2 + v);
                }
            }
        }
        classOfChain();
        FaultSearch x = Chips.oneGate(0);
        unchangedBy("classOf(0, 0, 0)", INDEX, x, () -> x.classOf(0, 0, 0));
        CHECK.refuses("classOf(3, NONE, 0)", INDEX, () -> x.classOf(3, NONE, 0));
        CHECK.refuses("classOf(2, 2, 0)", INDEX, () -> x.classOf(2, 2, 0));
        CHECK.refuses("classOf(2, 0, 2)", INDEX, () -> x.classOf(2, 0, 2));
        CHECK.refuses("classOf(2, -2, 0)", INDEX, () -> x.classOf(2, -2, 0));
        for (int wrong : WRONG_NUMBERS) {
            CHECK.refuses("classOf(" + wrong + ", NONE, 0)", INDEX, () -> x.classOf(wrong, NONE, 0));
            CHECK.refuses("classOf(2, 0, " + wrong + ")", INDEX, () -> x.classOf(2, 0, wrong));
        }
    }

    /** 99 NOTs behind one another: two classes over all of them. */
    private static void classOfChain() {
        FaultSearch x = Chips.withInputs(1);
        for (int net = 1; net < 100; net++) {
            x.gate(5, net - 1, 0);
        }
        x.output(99);
        CHECK.is("faults() of 99 NOTs", x.faults(), 2);
        CHECK.is("fault(0, 3) of 99 NOTs", x.fault(0, 3), 199);
        CHECK.is("classOf(99, NONE, 0)", x.classOf(99, NONE, 0), 1);
        CHECK.is("classOf(98, NONE, 0)", x.classOf(98, NONE, 0), 0);
        x.output(50);
        CHECK.is("faults() when net 50 is an output", x.faults(), 4);
        CHECK.is("classOf(50, NONE, 0)", x.classOf(50, NONE, 0), 0);
        CHECK.is("classOf(51, 0, 0)", x.classOf(51, 0, 0), x.classOf(51, NONE, 1));
        CHECK.is("classOf(51, NONE, 0)", x.classOf(51, NONE, 0), 2);
    }

    private static void test9() {
        classTests(Chips.oneGate(0), 3, 2, 1, 0);
        classTests(Chips.oneGate(1), 1, 0, 2, 1);
        classTests(Chips.oneGate(2), 1, 0, 2, 0, 1, 0);
        FaultSearch x = Chips.chooser();
        CHECK.is("test of net 6 stuck at 0", x.test(x.classOf(6, NONE, 0)), NONE);
        CHECK.is("test of net 6 stuck at 1", x.test(x.classOf(6, NONE, 1)), 0);
        CHECK.is("test of input 0 stuck at 0", x.test(x.classOf(0, NONE, 0)), 3);
        CHECK.is("test of input 0 stuck at 1", x.test(x.classOf(0, NONE, 1)), 2);
        CHECK.is("test of input 1 stuck at 1", x.test(x.classOf(1, NONE, 1)), 1);
        FaultSearch blind = Chips.withInputs(1);
        classTests(blind, NONE, NONE);
        blind.output(0);
        classTests(blind, 1, 0);
        FaultSearch ten = Chips.withInputs(10);
        for (int net = 10; net < 19; net++) {
            ten.gate(0, net == 10 ? 0 : net - 1, net - 9);
        }
        ten.output(18);
        CHECK.is("test of an AND of ten", ten.test(0), 1023);
        CHECK.is("test of input 0 stuck at 1", ten.test(1), 1022);
        CHECK.is("test of input 9 stuck at 1", ten.test(ten.classOf(9, NONE, 1)), 511);
        wrongClasses("test", x, k -> () -> x.test(k));
    }

    private interface OfClass {
        Runnable call(int k);
    }

    private static void wrongClasses(String name, FaultSearch x, OfClass calls) {
        int many = x.faults();
        CHECK.refuses(name + " of class " + many, INDEX, calls.call(many));
        for (int wrong : WRONG_NUMBERS) {
            unchangedBy(name + " of class " + wrong, INDEX, x, calls.call(wrong));
        }
    }

    private static void shows10() {
        FaultSearch x = Chips.oneGate(0);
        boolean[][] due = {
            {false, false, false, true}, {false, false, true, false},
            {false, true, false, false}, {true, true, true, false}
        };
        for (int k = 0; k < 4; k++) {
            for (int assignment = -8; assignment < 8; assignment++) {
                CHECK.is("shows(" + assignment + ", " + k + ")", x.shows(assignment, k), due[k][assignment & 3]);
            }
        }
        CHECK.is("shows(MAX, 0)", x.shows(Integer.MAX_VALUE, 0), true);
        CHECK.is("shows(MIN, 0)", x.shows(Integer.MIN_VALUE, 0), false);
        // An inverted copy beside the net: both outputs change at once, and that is no less a change.
        x.gate(5, 2, 0);
        x.output(3);
        CHECK.is("shows(3, 0) with two outputs", x.shows(3, 0), true);
        // A net that meets itself in a XOR can't be seen there, one pin of it can.
        FaultSearch met = Chips.withInputs(1);
        met.gate(2, 0, 0);
        met.output(1);
        CHECK.is("shows(1, class of net 0 at 0)", met.shows(1, met.classOf(0, NONE, 0)), false);
        CHECK.is("shows(1, class of pin 0 at 0)", met.shows(1, met.classOf(1, 0, 0)), true);
        CHECK.is("shows(0, class of pin 0 at 0)", met.shows(0, met.classOf(1, 0, 0)), false);
        wrongClasses("shows", x, k -> () -> x.shows(0, k));
    }

    private static void shown11() {
        FaultSearch x = Chips.oneGate(0);
        int[] due = {1, 1, 1, 3};
        for (int k = 0; k < 4; k++) {
            CHECK.is("shown(" + k + ")", x.shown(k), due[k]);
        }
        x.input();
        CHECK.is("shown(3) with an input that does nothing", x.shown(x.classOf(2, NONE, 1)), 6);
        FaultSearch blind = Chips.withInputs(2);
        CHECK.is("shown(0) without outputs", blind.shown(0), 0);
        for (int inputs = 1; inputs <= 10; inputs++) {
            FaultSearch many = Chips.withInputs(inputs);
            many.output(0);
            CHECK.is("shown(0) of " + inputs + " inputs", many.shown(0), 1 << (inputs - 1));
            CHECK.is("shown(1) of " + inputs + " inputs", many.shown(1), 1 << (inputs - 1));
        }
        wrongClasses("shown", x, k -> () -> x.shown(k));
    }

    private static void run12() {
        FaultSearch x = Chips.oneGate(0);
        CHECK.is("run()", x.run(), 3);
        patterns("run", x, 3, 2, 1);
        CHECK.is("count(3)", x.count(3), 4);
        CHECK.is("run() when all are found", x.run(), 0);
        patterns("second run", x);
        CHECK.is("count(3) after it", x.count(3), 4);
        x.reset();
        x.simulate(2);
        CHECK.is("run() when 2 was simulated", x.run(), 2);
        patterns("run behind simulate(2)", x, 3, 1);
        FaultSearch choice = Chips.chooser();
        int tests = choice.run();
        CHECK.is("found and untestable are all", choice.count(3) + choice.count(5), choice.faults());
        CHECK.is("count(5)", choice.count(5), 1);
        choice.reset();
        int news = 0;
        for (int i = 0; i < tests; i++) {
            int found = choice.simulate(choice.pattern(i));
            CHECK.is("each test of a run finds something", found > 0, true);
            news += found;
        }
        CHECK.is("the tests alone find all that the run found", news, choice.faults() - choice.count(5));
    }

    private static void pattern13() {
        FaultSearch x = Chips.oneGate(2);
        patterns("before a run", x);
        x.run();
        patterns("of a XOR", x, 1, 0, 2);
        x.reset();
        x.simulate(3);
        patterns("behind reset() and simulate()", x, 1, 0, 2);
        x.output(2);
        patterns("behind an output that was one", x);
        x.run();
        CHECK.is("count(4)", x.count(4), 3);
        x.gate(6, 2, 0);
        patterns("behind a gate", x);
        x.run();
        x.input();
        patterns("behind an input", x);
        x.run();
        CHECK.is("pattern(0) of a new run", x.pattern(0), 1);
        for (int wrong : WRONG_NUMBERS) {
            CHECK.refuses("pattern(" + wrong + ")", INDEX, () -> x.pattern(wrong));
        }
    }

    private static void simulate14() {
        FaultSearch x = Chips.oneGate(0);
        CHECK.is("simulate(0)", x.simulate(0), 1);
        CHECK.is("simulate(0) again", x.simulate(0), 0);
        CHECK.is("simulate(1)", x.simulate(1), 1);
        CHECK.is("simulate(-1), all bits", x.simulate(-1), 1);
        CHECK.is("simulate(3), the same", x.simulate(3), 0);
        CHECK.is("simulate(6), 2 with a bit too much", x.simulate(6), 1);
        CHECK.is("count(3)", x.count(3), 4);
        CHECK.is("no test comes of it", x.count(4), 0);
        x.output(0);
        CHECK.is("count(3) behind an output", x.count(3), 0);
        // Net 0 at 0, pin 0 at 0 with net 1, pin 1 and net 2 at 0: two classes now.
        CHECK.is("simulate(3) with net 0 an output", x.simulate(3), 2);
        x.gate(0, 0, 1);
        CHECK.is("count(3) behind a gate", x.count(3), 0);
        x.simulate(3);
        x.input();
        CHECK.is("count(3) behind an input", x.count(3), 0);
    }

    private static void left15() {
        FaultSearch x = Chips.oneGate(0);
        left("at first", x, 0, 1, 2, 3);
        x.simulate(2);
        left("behind simulate(2)", x, 0, 2);
        CHECK.is("left(MAX)", x.left(Integer.MAX_VALUE), NONE);
        unchangedBy("left(-1)", INDEX, x, () -> x.left(-1));
        CHECK.refuses("left(MIN)", INDEX, () -> x.left(Integer.MIN_VALUE));
        x.run();
        left("behind run()", x);
        FaultSearch blind = Chips.withInputs(1);
        blind.run();
        left("without outputs", blind, 0, 1);
    }

    private static void reset16() {
        FaultSearch x = Chips.oneGate(0);
        x.run();
        x.reset();
        CHECK.is("count(3)", x.count(3), 0);
        left("behind reset()", x, 0, 1, 2, 3);
        patterns("behind reset()", x, 3, 2, 1);
        counts("behind reset()", x, 3, 2, 1);
        CHECK.is("simulate(2)", x.simulate(2), 2);
        x.reset();
        CHECK.is("run() again", x.run(), 3);
    }

    private static void slow17() {
        FaultSearch x = Chips.oneGate(0);
        int[][] due = {
            // net, v, before, shows
            {0, 0, 1, 2}, {0, 1, 0, 3}, {1, 0, 2, 1}, {1, 1, 0, 3}, {2, 0, 3, 0}, {2, 1, 0, 3}
        };
        for (int[] row : due) {
            CHECK.is("slow(" + row[0] + ", " + row[1] + ", 0)", x.slow(row[0], row[1], 0), row[2]);
            CHECK.is("slow(" + row[0] + ", " + row[1] + ", 1)", x.slow(row[0], row[1], 1), row[3]);
        }
        FaultSearch fixed = Chips.withInputs(1);
        fixed.gate(2, 0, 0);
        fixed.output(1);
        // Net 1 is always 0: stuck at 1 it is shown, but it is never 1 before; stuck at 0 it is never shown.
        CHECK.is("shown of net 1 at 1", fixed.shown(fixed.classOf(1, NONE, 1)), 2);
        for (int which = 0; which < 2; which++) {
            CHECK.is("slow(1, 0, " + which + ")", fixed.slow(1, 0, which), NONE);
            CHECK.is("slow(1, 1, " + which + ")", fixed.slow(1, 1, which), NONE);
        }
        unchangedBy("slow(3, 0, 0)", INDEX, x, () -> x.slow(3, 0, 0));
        CHECK.refuses("slow(0, 2, 0)", INDEX, () -> x.slow(0, 2, 0));
        CHECK.refuses("slow(0, 0, 2)", INDEX, () -> x.slow(0, 0, 2));
        for (int wrong : WRONG_NUMBERS) {
            CHECK.refuses("slow(" + wrong + ", 0, 0)", INDEX, () -> x.slow(wrong, 0, 0));
            CHECK.refuses("slow(0, " + wrong + ", 0)", INDEX, () -> x.slow(0, wrong, 0));
            CHECK.refuses("slow(0, 0, " + wrong + ")", INDEX, () -> x.slow(0, 0, wrong));
        }
        FaultSearch ten = Chips.withInputs(10);
        ten.gate(0, 8, 9);
        ten.output(10);
        CHECK.is("slow(10, 0, 0) of ten inputs", ten.slow(10, 0, 0), 768);
        CHECK.is("slow(8, 0, 1) of ten inputs", ten.slow(8, 0, 1), 512);
    }

    private static void count18() {
        FaultSearch x = Chips.oneGate(0);
        x.input();
        counts("at first", x, 4, 3, 1, 0, 0, 2);
        x.run();
        counts("behind run()", x, 4, 3, 1, 4, 3, 2);
        x.output(2);
        counts("behind output()", x, 4, 3, 2, 0, 0, 2);
        x.output(3);
        counts("behind another", x, 4, 3, 3, 0, 0, 0);
        unchangedBy("count(6)", INDEX, x, () -> x.count(6));
        for (int wrong : WRONG_NUMBERS) {
            CHECK.refuses("count(" + wrong + ")", INDEX, () -> x.count(wrong));
        }
    }

    private static void clear19() {
        FaultSearch x = Chips.chooser();
        x.run();
        x.clear();
        isEmpty("cleared:", x);
        x.clear();
        isEmpty("cleared twice:", x);
        CHECK.is("input() of a cleared one", x.input(), 0);
        x.input();
        CHECK.is("gate(0, 0, 1) of a cleared one", x.gate(0, 0, 1), 2);
        CHECK.is("output(2) of a cleared one", x.output(2), 0);
        classTests(x, 3, 2, 1, 0);
        CHECK.is("run() of a cleared one", x.run(), 3);
        x.clear();
        for (int i = 0; i < 10; i++) {
            CHECK.is("input() up to ten again", x.input(), i);
        }
    }

    public static void main(String[] args) {
        newObject1();
        input2();
        gate3();
        output4();
        value5();
        faults6();
        fault7();
        classOf8();
        test9();
        shows10();
        shown11();
        run12();
        pattern13();
        simulate14();
        left15();
        reset16();
        slow17();
        count18();
        clear19();
        CHECK.end();
    }
}
