/** The edges of what is shown, found, run and slow: promises 9 to 18, and parts 1 and 3 of the terms. */
public final class TestsEdgeTest {
    private static final Class<IndexOutOfBoundsException> INDEX = IndexOutOfBoundsException.class;
    private static final Class<IllegalStateException> STATE = IllegalStateException.class;
    private static final int NONE = FaultSearch.NONE;
    private static final int MIN = Integer.MIN_VALUE;
    private static final int MAX = Integer.MAX_VALUE;
    private static final int AND = 0;
    private static final int OR = 1;
    private static final int XOR = 2;
    private static final int SAME = 6;

    private static final Check CHECK = new Check("TestsEdgeTest");

    private TestsEdgeTest() {
    }

    /** So many inputs, 2 or more, and an AND of all of them, the last net, an output. */
    private static FaultSearch andOfAll(int inputs) {
        FaultSearch x = Chips.withInputs(inputs);
        for (int input = 1; input < inputs; input++) {
            x.gate(AND, input == 1 ? 0 : x.count(0) - 1, input);
        }
        x.output(x.count(0) - 1);
        return x;
    }

    private static void patterns(String when, FaultSearch x, int... due) {
        CHECK.is(when + ": count(4)", x.count(4), due.length);
        for (int i = 0; i < due.length; i++) {
            CHECK.is(when + ": pattern(" + i + ")", x.pattern(i), due[i]);
        }
        for (int wrong : new int[] {MIN, -2, -1, due.length, due.length + 1, MAX}) {
            CHECK.refuses(when + ": pattern(" + wrong + ")", INDEX, () -> x.pattern(wrong));
        }
    }

    private static void left(String when, FaultSearch x, int... due) {
        for (int i = 0; i < due.length; i++) {
            CHECK.is(when + ": left(" + i + ")", x.left(i), due[i]);
        }
        for (int beyond : new int[] {due.length, due.length + 1, 600, MAX}) {
            CHECK.is(when + ": left(" + beyond + ")", x.left(beyond), NONE);
        }
        CHECK.is(when + ": count(3)", x.count(3), x.faults() - due.length);
    }

    private static void stuckNetAndPin() {
        CHECK.about("a stuck net has that value for all that take it and as output; a stuck pin for its gate alone");
        FaultSearch x = Chips.withInputs(1);
        x.gate(SAME, 0, NONE);
        x.gate(SAME, 0, NONE);
        x.output(1);
        CHECK.is("net 0 at 0, seen at net 1", x.shows(1, x.classOf(0, NONE, 0)), true);
        CHECK.is("pin of net 1 at 0", x.shows(1, x.classOf(1, 0, 0)), true);
        CHECK.is("pin of net 2 at 0: net 2 is no output", x.shown(x.classOf(2, 0, 0)), 0);
        x.output(2);
        CHECK.is("pin of net 2 at 0: net 2 is an output", x.shows(1, x.classOf(2, 0, 0)), true);

        FaultSearch own = Chips.withInputs(1);
        own.gate(SAME, 0, NONE);
        own.output(0);
        CHECK.is("net 0 at 1, an output itself", own.shows(0, own.classOf(0, NONE, 1)), true);
        CHECK.is("pin that takes net 0 at 1", own.shown(own.classOf(1, 0, 1)), 0);
        own.gate(5, 0, NONE);
        own.output(2);
        CHECK.is("net 2 at 1, whatever its gate tells", own.shows(1, own.classOf(2, NONE, 1)), true);
        CHECK.is("net 2 at 1 when it is 1", own.shows(0, own.classOf(2, NONE, 1)), false);
    }

    /** The inputs are outputs, too, so that pins are in no class with them. */
    private static void stuckPinsOfKinds() {
        CHECK.about("a stuck pin has it for its gate alone: its gate takes the other pin as it is");
        // By kinds: the tests of pin 0 at 0 and 1, then of pin 1 at 0 and 1.
        int[][] due = {
            {3, 2, 3, 1}, {1, 0, 2, 0}, {1, 0, 2, 0}, {3, 2, 3, 1}, {1, 0, 2, 0}, {1, 0}, {1, 0}
        };
        for (int kind = 0; kind < 7; kind++) {
            FaultSearch x = Chips.oneGate(kind);
            x.output(0);
            x.output(1);
            for (int i = 0; i < due[kind].length; i++) {
                int k = x.classOf(2, i / 2, i % 2);
                CHECK.is("kind " + kind + " pin " + i / 2 + " at " + i % 2, x.test(k), due[kind][i]);
                CHECK.is("how many show it", x.shown(k), kind == XOR || kind > 4 ? 2 : 1);
            }
        }
    }

    private static void someOutput() {
        CHECK.about("SHOWN by an assignment if some output is another one with it than without");
        FaultSearch x = Chips.withInputs(2);
        CHECK.is("no output: count(5)", x.count(5), 4);
        for (int number = 0; number < 11; number++) {
            x.output(0);
        }
        CHECK.is("eleven outputs of net 0: net 1 at 0", x.test(2), NONE);
        x.output(1);
        CHECK.is("net 1 as the 12th output: net 1 at 0", x.test(2), 2);
        CHECK.is("net 1 as the 12th output: net 0 at 0", x.test(0), 1);
        FaultSearch met = Chips.metItself(XOR);
        CHECK.is("both pins change, the output does not", met.shown(met.classOf(0, NONE, 0)), 0);
        CHECK.is("one pin changes", met.shown(met.classOf(1, 1, 0)), 1);
        met.output(0);
        CHECK.is("another output changes", met.shown(met.classOf(0, NONE, 0)), 1);
    }

    private static void leastTest() {
        CHECK.about("THE TEST of a class is the least assignment that shows it");
        for (int inputs = 2; inputs <= 10; inputs++) {
            FaultSearch x = andOfAll(inputs);
            int all = (1 << inputs) - 1;
            CHECK.is("all at 0, shown by the last alone", x.test(0), all);
            CHECK.is("shown(0)", x.shown(0), 1);
            CHECK.is("the output at 1, shown by the first", x.test(x.faults() - 1), 0);
            CHECK.is("shown by all but the last", x.shown(x.faults() - 1), all);
            for (int input = 0; input < inputs; input++) {
                CHECK.is("input " + input + " at 1", x.test(x.classOf(input, NONE, 1)), all - (1 << input));
            }
        }
        for (int inputs = 1; inputs <= 10; inputs++) {
            FaultSearch x = Chips.withInputs(inputs);
            x.output(inputs - 1);
            CHECK.is("the last input at 0", x.test(x.classOf(inputs - 1, NONE, 0)), 1 << (inputs - 1));
            CHECK.is("the last input at 1", x.test(x.classOf(inputs - 1, NONE, 1)), 0);
        }
    }

    private static void untestable() {
        CHECK.about("it is UNTESTABLE if none does; test: NONE if it is untestable");
        FaultSearch x = Chips.chooser();
        int never = x.classOf(6, NONE, 0);
        CHECK.is("test", x.test(never), NONE);
        CHECK.is("shown", x.shown(never), 0);
        for (int assignment = 0; assignment < 8; assignment++) {
            CHECK.is("shows(" + assignment + ")", x.shows(assignment, never), false);
        }
        CHECK.is("count(5)", x.count(5), 1);
        x.output(6);
        CHECK.is("test, net 6 an output", x.test(x.classOf(6, NONE, 0)), 6);
        // A pin of its own now, net 7's fellow: that one is never shown instead.
        CHECK.is("test of the pin that takes net 6", x.test(x.classOf(8, 1, 0)), NONE);
        CHECK.is("count(5), net 6 an output", x.count(5), 1);
        FaultSearch blind = Chips.withInputs(10);
        CHECK.is("count(5) without outputs", blind.count(5), 20);
        CHECK.is("test(0) without outputs", blind.test(0), NONE);
        CHECK.is("test(19) without outputs", blind.test(19), NONE);
        FaultSearch still = Chips.metItself(XOR);
        CHECK.is("a net that is always 0, at 0", still.test(still.classOf(1, NONE, 0)), NONE);
        CHECK.is("a net that is always 0, at 1", still.test(still.classOf(1, NONE, 1)), 0);
    }

    private static void bitsOfShows() {
        CHECK.about("shows, simulate: bits of inputs that there are not do not count");
        for (int inputs = 2; inputs <= 10; inputs++) {
            FaultSearch x = andOfAll(inputs);
            int all = (1 << inputs) - 1;
            int last = x.faults() - 1;
            CHECK.is("shows(all, 0)", x.shows(all, 0), true);
            CHECK.is("shows(-1, 0)", x.shows(-1, 0), true);
            CHECK.is("shows(MAX, 0)", x.shows(MAX, 0), true);
            CHECK.is("shows(-2, 0)", x.shows(-2, 0), false);
            CHECK.is("shows(MIN, 0)", x.shows(MIN, 0), false);
            CHECK.is("shows(all + 1, 0)", x.shows(all + 1, 0), false);
            CHECK.is("shows(all + 1, last)", x.shows(all + 1, last), true);
            CHECK.is("shows(MIN, last)", x.shows(MIN, last), true);
            CHECK.is("shows(MAX, last)", x.shows(MAX, last), false);
            CHECK.is("simulate(all + 1), as 0", x.simulate(all + 1), 1);
            CHECK.is("simulate(0)", x.simulate(0), 0);
            CHECK.is("simulate(MIN)", x.simulate(MIN), 0);
            CHECK.is("simulate(-1), as all", x.simulate(-1), 1);
            CHECK.is("simulate(MAX)", x.simulate(MAX), 0);
            CHECK.is("simulate(all)", x.simulate(all), 0);
            // Input 0 at 1 and the nets of all ANDs at 1, of which 0 has found the last.
            CHECK.is("simulate(-2), as all but input 0", x.simulate(-2), inputs - 1);
            CHECK.is("simulate(all - 1)", x.simulate(all - 1), 0);
        }
        FaultSearch grows = Chips.oneGate(XOR);
        CHECK.is("simulate(4) of two inputs", grows.simulate(4), 3);
        grows.input();
        grows.output(3);
        CHECK.is("shows(4) of three inputs: input 2 at 0", grows.shows(4, grows.classOf(3, NONE, 0)), true);
        CHECK.is("simulate(4) of three inputs", grows.simulate(4), 4);
        CHECK.is("simulate(0) of three inputs", grows.simulate(0), 1);
    }

    private static void ofInputsThereAre() {
        CHECK.about("How many assignments (of the inputs there are) show a class");
        FaultSearch x = Chips.metItself(XOR);
        for (int inputs = 1; inputs <= 10; inputs++) {
            String of = inputs + " inputs, a net that is always 0, ";
            CHECK.is(of + "at 1", x.shown(x.classOf(1, NONE, 1)), 1 << inputs);
            CHECK.is(of + "at 0", x.shown(x.classOf(1, NONE, 0)), 0);
            CHECK.is(of + "its pin at 1", x.shown(x.classOf(1, 0, 1)), 1 << (inputs - 1));
            if (inputs < 10) {
                x.input();
            }
        }
    }

    private static void wrongClass() {
        CHECK.about("test, shows, shown: IndexOutOfBoundsException: there is no such class");
        FaultSearch x = Chips.oneGate(AND);
        CHECK.is("test of the first class", x.test(0), 3);
        CHECK.is("test of the last class", x.test(3), 0);
        CHECK.is("shows of the last class", x.shows(0, 3), true);
        CHECK.is("shown of the last class", x.shown(3), 3);
        for (int wrong : new int[] {MIN, -2, -1, 4, 5, MAX}) {
            CHECK.refuses("test(" + wrong + ")", INDEX, () -> x.test(wrong));
            CHECK.refuses("shows(0, " + wrong + ")", INDEX, () -> x.shows(0, wrong));
            CHECK.refuses("shows(-1, " + wrong + ")", INDEX, () -> x.shows(-1, wrong));
            CHECK.refuses("shown(" + wrong + ")", INDEX, () -> x.shown(wrong));
        }
        x.input();
        CHECK.is("class 4 when an input came behind the gate", x.test(4), NONE);
        CHECK.refuses("test(6)", INDEX, () -> x.test(6));
    }

    private static void runs() {
        CHECK.about("classes by numbers: of each that is not found by then its test, if it has one, is the next one");
        FaultSearch or = Chips.oneGate(OR);
        CHECK.is("run()", or.run(), 3);
        patterns("OR", or, 1, 0, 2);
        left("OR", or);
        FaultSearch blind = Chips.withInputs(2);
        CHECK.is("run() without outputs", blind.run(), 0);
        patterns("without outputs", blind);
        left("without outputs", blind, 0, 1, 2, 3);
        FaultSearch half = Chips.withInputs(2);
        half.output(1);
        CHECK.is("run() when classes 0 and 1 have no test", half.run(), 2);
        patterns("net 1 alone is an output", half, 2, 0);
        left("net 1 alone is an output", half, 0, 1);
        FaultSearch known = Chips.oneGate(AND);
        known.simulate(3);
        known.simulate(1);
        CHECK.is("run() behind simulate(3), simulate(1)", known.run(), 1);
        patterns("behind simulate(3), simulate(1)", known, 2);
        FaultSearch all = Chips.oneGate(AND);
        all.simulate(3);
        all.simulate(2);
        all.simulate(1);
        CHECK.is("run() when all are found by simulate()", all.run(), 0);
        patterns("all found", all);
    }

    private static void earlierRun() {
        CHECK.about("how many tests there are then (those of an earlier run go)");
        FaultSearch x = Chips.oneGate(AND);
        x.run();
        patterns("first run", x, 3, 2, 1);
        CHECK.is("run() when nothing is left", x.run(), 0);
        patterns("second run", x);
        x.reset();
        x.simulate(3);
        CHECK.is("run() when less is left", x.run(), 2);
        patterns("third run", x, 2, 1);
        x.reset();
        CHECK.is("run() when all is left", x.run(), 3);
        patterns("fourth run", x, 3, 2, 1);
    }

    private static void latestRun() {
        CHECK.about("pattern: as long as no net, gate or output came since; also if there is no such run");
        patterns("no run of a new object", new FaultSearch());
        FaultSearch x = Chips.oneGate(XOR);
        patterns("no run", x);
        x.run();
        patterns("run", x, 1, 0, 2);
        x.reset();
        patterns("behind reset()", x, 1, 0, 2);
        x.simulate(3);
        patterns("behind simulate()", x, 1, 0, 2);
        x.input();
        patterns("a net came", x);
        x.run();
        patterns("run, three inputs", x, 1, 0, 2);
        x.gate(SAME, 3, NONE);
        patterns("a gate came", x);
        x.run();
        patterns("run, a gate", x, 1, 0, 2);
        x.output(4);
        patterns("an output came", x);
        x.run();
        patterns("run, two outputs", x, 1, 0, 2, 4);
        x.output(4);
        patterns("an output came once more", x);
        x.run();
        x.clear();
        patterns("cleared", x);
    }

    /** What is refused did not come: the tests of the run and what was found stay. */
    private static void refusedDidNotCome() {
        CHECK.about("as long as no net, gate or output came since: a refused one did not come");
        FaultSearch x = Chips.copies(10, 100);
        for (int number = 0; number < 12; number++) {
            x.output(99);
        }
        x.run();
        CHECK.refuses("input()", STATE, x::input);
        patterns("11th input", x, 512, 0);
        CHECK.refuses("gate(6, 0, 0)", STATE, () -> x.gate(6, 0, 0));
        patterns("101st net", x, 512, 0);
        CHECK.refuses("output(0)", STATE, () -> x.output(0));
        patterns("13th output", x, 512, 0);
        CHECK.refuses("output(100)", INDEX, () -> x.output(100));
        patterns("output of no net", x, 512, 0);
        CHECK.is("count(3)", x.count(3), 2);
    }

    private static void foundSince() {
        CHECK.about("an assignment shows it that was SIMULATED since nets, gates or outputs came, or reset()");
        FaultSearch x = Chips.oneGate(AND);
        CHECK.is("simulate(3)", x.simulate(3), 1);
        CHECK.is("count(3)", x.count(3), 1);
        x.input();
        left("a net came", x, 0, 1, 2, 3, 4, 5);
        CHECK.is("simulate(3), a net came", x.simulate(3), 1);
        x.gate(SAME, 3, NONE);
        left("a gate came", x, 0, 1, 2, 3, 4, 5);
        CHECK.is("simulate(3), a gate came", x.simulate(3), 1);
        x.output(2);
        left("an output came", x, 0, 1, 2, 3, 4, 5);
        CHECK.is("simulate(3), an output came", x.simulate(3), 1);
        x.reset();
        left("reset", x, 0, 1, 2, 3, 4, 5);
        CHECK.is("simulate(3), reset", x.simulate(3), 1);
        left("simulated once more", x, 1, 2, 3, 4, 5);
        FaultSearch asked = Chips.oneGate(AND);
        asked.shows(3, 0);
        asked.test(1);
        asked.slow(2, 0, 0);
        CHECK.is("what was asked for is not found", asked.count(3), 0);
    }

    private static void simulated() {
        CHECK.about("simulate: how many classes are found by it that were not");
        FaultSearch x = Chips.oneGate(XOR);
        CHECK.is("simulate(0)", x.simulate(0), 3);
        CHECK.is("simulate(0) once more", x.simulate(0), 0);
        CHECK.is("simulate(1): net 0 at 0, net 2 at 0, but net 1 at 1 was found", x.simulate(1), 2);
        CHECK.is("simulate(2): net 1 at 0", x.simulate(2), 1);
        CHECK.is("simulate(3): all were found", x.simulate(3), 0);
        CHECK.is("count(3)", x.count(3), 6);
        CHECK.is("no test comes of it", x.count(4), 0);
        CHECK.is("without outputs", Chips.withInputs(10).simulate(-1), 0);
    }

    private static void theLeft() {
        CHECK.about("The i-th class that is not found (from 0); NONE if there are not so many; i is below 0");
        FaultSearch x = Chips.oneGate(AND);
        left("none found", x, 0, 1, 2, 3);
        x.simulate(0);
        left("the last found", x, 0, 1, 2);
        x.simulate(3);
        left("the first found", x, 1, 2);
        x.simulate(2);
        left("one left", x, 2);
        x.simulate(1);
        left("none left", x);
        for (int wrong : new int[] {MIN, -2, -1}) {
            CHECK.refuses("left(" + wrong + ") when none is left", INDEX, () -> x.left(wrong));
        }
        x.reset();
        for (int wrong : new int[] {MIN, -2, -1}) {
            CHECK.refuses("left(" + wrong + ") when all are", INDEX, () -> x.left(wrong));
        }
        FaultSearch choice = Chips.chooser();
        choice.run();
        left("what is untestable stays", choice, choice.classOf(6, NONE, 0));
    }

    private static void nothingIsFound() {
        CHECK.about("reset: Nothing is found");
        FaultSearch x = Chips.oneGate(AND);
        x.reset();
        left("reset of a new one", x, 0, 1, 2, 3);
        x.run();
        left("run", x);
        x.reset();
        left("reset", x, 0, 1, 2, 3);
        x.reset();
        left("reset twice", x, 0, 1, 2, 3);
        CHECK.is("count(0)", x.count(0), 3);
        CHECK.is("count(1)", x.count(1), 2);
        CHECK.is("count(2)", x.count(2), 1);
        patterns("reset", x, 3, 2, 1);
        CHECK.is("simulate(2) finds as at first", x.simulate(2), 2);
        x.reset();
        CHECK.is("run() finds as at first", x.run(), 3);
    }

    private static void pair(FaultSearch x, int net, int v, int before, int showing) {
        CHECK.is("slow(" + net + ", " + v + ", 0)", x.slow(net, v, 0), before);
        CHECK.is("slow(" + net + ", " + v + ", 1)", x.slow(net, v, 1), showing);
    }

    private static void slowPairs() {
        CHECK.about("ITS PAIR: the least that shows the net stuck at 1 - v, before it the least in which it is 1 - v");
        for (int inputs = 2; inputs <= 10; inputs++) {
            FaultSearch x = andOfAll(inputs);
            int all = (1 << inputs) - 1;
            int and = x.count(0) - 1;
            pair(x, and, 1, 0, all);
            pair(x, and, 0, all, 0);
            for (int input = 0; input < inputs; input++) {
                pair(x, input, 1, 0, all);
                pair(x, input, 0, 1 << input, all - (1 << input));
            }
        }
        // Net 0 itself is a pin's fellow in no class, and slow asks for the net, not for the pin.
        FaultSearch met = Chips.metItself(XOR);
        met.output(0);
        pair(met, 0, 1, 0, 1);
        pair(met, 0, 0, 1, 0);
    }

    private static void slowNone() {
        CHECK.about("slow: NONE if one of them is none");
        FaultSearch x = Chips.metItself(XOR);
        CHECK.is("net 1 at 1 is shown", x.test(x.classOf(1, NONE, 1)), 0);
        // It is shown, but net 1 is 1 in no assignment before.
        pair(x, 1, 0, NONE, NONE);
        // Net 1 is 0 in assignment 0 before, but at 0 it is never shown.
        pair(x, 1, 1, NONE, NONE);
        pair(x, 0, 0, NONE, NONE);
        pair(x, 0, 1, NONE, NONE);
        FaultSearch blind = Chips.withInputs(1);
        blind.gate(XOR, 0, 0);
        pair(blind, 0, 0, NONE, NONE);
        pair(blind, 0, 1, NONE, NONE);
        pair(blind, 1, 0, NONE, NONE);
        pair(blind, 1, 1, NONE, NONE);
        FaultSearch choice = Chips.chooser();
        pair(choice, 6, 1, NONE, NONE);
        pair(choice, 6, 0, 6, 0);
        slowStill();
    }

    /** Net 1 is 0 and net 2 is 1 in every assignment: all are looked at, however many, and none behind the last. */
    private static void slowStill() {
        FaultSearch x = Chips.metItself(XOR);
        x.gate(5, 1, NONE);
        x.output(2);
        for (int inputs = 1; inputs <= 10; inputs++) {
            for (int v = 0; v < 2; v++) {
                pair(x, 1, v, NONE, NONE);
                pair(x, 2, v, NONE, NONE);
            }
            if (inputs < 10) {
                x.input();
            }
        }
    }

    private static void slowWrong() {
        CHECK.about("slow: IndexOutOfBoundsException: also if v or which is neither 0 nor 1");
        FaultSearch x = Chips.oneGate(AND);
        pair(x, 2, 0, 3, 0);
        pair(x, 0, 1, 0, 3);
        for (int wrong : new int[] {MIN, -2, -1, 2, 3, MAX}) {
            for (int bit = 0; bit < 2; bit++) {
                int good = bit;
                CHECK.refuses("slow(2, " + wrong + ", " + bit + ")", INDEX, () -> x.slow(2, wrong, good));
                CHECK.refuses("slow(2, " + bit + ", " + wrong + ")", INDEX, () -> x.slow(2, good, wrong));
            }
            CHECK.refuses("slow(2, " + wrong + ", " + wrong + ")", INDEX, () -> x.slow(2, wrong, wrong));
        }
        for (int wrong : new int[] {MIN, -2, -1, 3, 4, MAX}) {
            CHECK.refuses("slow(" + wrong + ", 0, 0) of 3 nets", INDEX, () -> x.slow(wrong, 0, 0));
            CHECK.refuses("slow(" + wrong + ", 1, 1) of 3 nets", INDEX, () -> x.slow(wrong, 1, 1));
        }
        // Where there is no pair, a wrong v or which is wrong no less.
        FaultSearch blind = Chips.withInputs(1);
        CHECK.refuses("slow(0, 2, 0) without outputs", INDEX, () -> blind.slow(0, 2, 0));
        CHECK.refuses("slow(0, 0, -1) without outputs", INDEX, () -> blind.slow(0, 0, -1));
    }

    private static void counts(String when, FaultSearch x, int... due) {
        for (int what = 0; what < 6; what++) {
            CHECK.is(when + ": count(" + what + ")", x.count(what), due[what]);
        }
        for (int wrong : new int[] {MIN, -2, -1, 6, 7, MAX}) {
            CHECK.refuses(when + ": count(" + wrong + ")", INDEX, () -> x.count(wrong));
        }
    }

    private static void countsOfAll() {
        CHECK.about("0 nets, 1 inputs, 2 outputs, 3 found classes, 4 tests of the latest run (0 as for pattern()), 5");
        FaultSearch x = new FaultSearch();
        counts("nothing", x, 0, 0, 0, 0, 0, 0);
        x.input();
        counts("one input", x, 1, 1, 0, 0, 0, 2);
        x.gate(XOR, 0, 0);
        counts("one gate", x, 2, 1, 0, 0, 0, 8);
        x.output(1);
        counts("one output", x, 2, 1, 1, 0, 0, 3);
        x.run();
        // The classes by numbers: net 0 at 0 and 1 never, net 1 at 0 never, at 1 by 0; pins by 1, 0, 1, 0.
        counts("run", x, 2, 1, 1, 5, 2, 3);
        x.run();
        counts("run that finds nothing", x, 2, 1, 1, 5, 0, 3);
        x.reset();
        x.run();
        counts("reset and run", x, 2, 1, 1, 5, 2, 3);
        x.reset();
        counts("reset", x, 2, 1, 1, 0, 2, 3);
        x.output(1);
        counts("an output came", x, 2, 1, 2, 0, 0, 3);
        x.run();
        x.gate(SAME, 0, NONE);
        counts("a gate came", x, 3, 1, 2, 0, 0, 5);
        x.run();
        x.input();
        counts("an input came", x, 4, 2, 2, 0, 0, 7);
        x.run();
        x.clear();
        counts("cleared", x, 0, 0, 0, 0, 0, 0);
        FaultSearch full = Chips.copies(10, 100);
        for (int number = 0; number < 12; number++) {
            full.output(99);
        }
        counts("full", full, 100, 10, 12, 0, 0, 18);
        full.run();
        counts("full, run", full, 100, 10, 12, 2, 2, 18);
    }

    /** The 512th call is the last that something is promised for. */
    private static void lastCall() {
        CHECK.about("An object is used for at most 512 calls after it has been made");
        FaultSearch x = Chips.copies(10, 100);
        for (int number = 0; number < 12; number++) {
            x.output(99);
        }
        for (int call = 113; call <= 509; call += 2) {
            x.reset();
            CHECK.is("run() as call " + (call + 1), x.run(), 2);
        }
        CHECK.is("pattern(0) as call 511", x.pattern(0), 512);
        CHECK.is("pattern(1) as call 512", x.pattern(1), 0);
    }

    public static void main(String[] args) {
        stuckNetAndPin();
        stuckPinsOfKinds();
        someOutput();
        leastTest();
        untestable();
        bitsOfShows();
        ofInputsThereAre();
        wrongClass();
        runs();
        earlierRun();
        latestRun();
        refusedDidNotCome();
        foundSince();
        simulated();
        theLeft();
        nothingIsFound();
        slowPairs();
        slowNone();
        slowWrong();
        countsOfAll();
        lastCall();
        CHECK.end();
    }
}
