/** The edges of nets, inputs, gates, outputs and assignments: promises 1 to 5 and 19, and part 1 of the terms. */
public final class NetsEdgeTest {
    private static final Class<IndexOutOfBoundsException> INDEX = IndexOutOfBoundsException.class;
    private static final Class<IllegalStateException> STATE = IllegalStateException.class;
    private static final Class<IllegalArgumentException> ARGUMENT = IllegalArgumentException.class;
    private static final int NONE = FaultSearch.NONE;
    private static final int MIN = Integer.MIN_VALUE;
    private static final int MAX = Integer.MAX_VALUE;

    /** Any number at all, where no number is good. */
    private static final int[] ANY = {MIN, -2, -1, 0, 1, 2, 5, 6, 7, 99, 100, MAX};

    private static final Check CHECK = new Check("NetsEdgeTest");

    private NetsEdgeTest() {
    }

    private static void hundredNets() {
        CHECK.about("NETS have numbers 0, 1, .. as they come (100 at most)");
        FaultSearch gates = Chips.copies(1, 99);
        CHECK.is("count(0) of 99 nets", gates.count(0), 99);
        CHECK.is("gate as the 100th net", gates.gate(0, 98, 0), 99);
        CHECK.is("count(0)", gates.count(0), 100);
        for (int kind = 0; kind < 7; kind++) {
            int of = kind;
            CHECK.refuses("gate of kind " + kind + " as the 101st", STATE, () -> gates.gate(of, 0, 0));
        }
        CHECK.refuses("input() as the 101st net", STATE, gates::input);
        CHECK.is("count(0) behind refused ones", gates.count(0), 100);
        CHECK.is("value of the 100th net", gates.value(99, 1), 1);
        CHECK.refuses("value of a 101st net", INDEX, () -> gates.value(100, 1));

        FaultSearch mixed = new FaultSearch();
        for (int net = 0; net < 20; net += 2) {
            CHECK.is("input() among gates", mixed.input(), net);
            CHECK.is("gate among inputs", mixed.gate(5, net, NONE), net + 1);
        }
    }

    private static void tenInputs() {
        CHECK.about("an INPUT (10 at most, numbered likewise); IllegalStateException: there are 10, or 100 nets");
        FaultSearch plain = Chips.withInputs(9);
        CHECK.is("10th input()", plain.input(), 9);
        CHECK.refuses("11th input() of 10 nets", STATE, plain::input);
        CHECK.is("count(1)", plain.count(1), 10);
        CHECK.is("count(0)", plain.count(0), 10);
        CHECK.is("gate with 10 inputs", plain.gate(6, 9, NONE), 10);
        CHECK.refuses("11th input() of 11 nets", STATE, plain::input);

        FaultSearch lastNet = Chips.copies(9, 99);
        CHECK.is("10th input() as the 100th net", lastNet.input(), 99);
        CHECK.refuses("input() when there are 10 and 100 nets", STATE, lastNet::input);

        FaultSearch noNet = Chips.copies(9, 100);
        CHECK.refuses("10th input() as the 101st net", STATE, noNet::input);
        CHECK.is("count(1) of 9 inputs", noNet.count(1), 9);
        CHECK.is("count(0) of 100 nets", noNet.count(0), 100);

        FaultSearch apart = new FaultSearch();
        for (int number = 0; number < 10; number++) {
            int net = apart.input();
            CHECK.is("input " + number + " is bit " + number, apart.value(net, 1 << number), 1);
            CHECK.is("input " + number + " is no other bit", apart.value(net, ~(1 << number)), 0);
            apart.gate(5, net, NONE);
        }
    }

    private static void netsBefore() {
        CHECK.about("a GATE's, of nets before it");
        FaultSearch x = Chips.withInputs(2);
        for (int kind = 0; kind < 7; kind++) {
            int of = kind;
            int own = x.count(0);
            CHECK.refuses("gate of itself, kind " + kind, INDEX, () -> x.gate(of, own, 0));
            CHECK.refuses("gate of net -1, kind " + kind, INDEX, () -> x.gate(of, -1, 0));
            CHECK.is("gate of the newest net, kind " + kind, x.gate(kind, own - 1, own - 1), own);
        }
        for (int kind = 0; kind < 5; kind++) {
            int of = kind;
            int own = x.count(0);
            CHECK.refuses("gate with itself at pin 1, kind " + kind, INDEX, () -> x.gate(of, 0, own));
            CHECK.refuses("gate with net -1 at pin 1, kind " + kind, INDEX, () -> x.gate(of, 0, -1));
            CHECK.is("gate with the newest net at pin 1, kind " + kind, x.gate(kind, 0, own - 1), own);
        }
    }

    private static void oneSource() {
        CHECK.about("kinds 5 and 6 do not ask for b");
        FaultSearch x = Chips.withInputs(2);
        int due = 2;
        for (int b : ANY) {
            CHECK.is("gate(5, 0, " + b + ")", x.gate(5, 0, b), due);
            CHECK.is("gate(6, 0, " + b + ")", x.gate(6, 0, b), due + 1);
            for (int assignment = 0; assignment < 4; assignment++) {
                CHECK.is("NOT 0 in " + assignment, x.value(due, assignment), 1 - (assignment & 1));
                CHECK.is("0 in " + assignment, x.value(due + 1, assignment), assignment & 1);
            }
            due += 2;
        }
        for (int kind = 0; kind < 5; kind++) {
            int of = kind;
            CHECK.refuses("kind " + kind + " asks for b", INDEX, () -> x.gate(of, 0, 99));
        }
        // A kind that there is not is none of the two that do not ask.
        CHECK.refuses("kind 4 asks for b", INDEX, () -> x.gate(4, 0, -1));
        CHECK.refuses("kind 7 asks for b", INDEX, () -> x.gate(7, 0, -1));
    }

    private static void sevenKinds() {
        CHECK.about("IllegalArgumentException: there is no such kind");
        FaultSearch x = Chips.withInputs(2);
        CHECK.is("kind 0", x.gate(0, 0, 1), 2);
        CHECK.is("kind 6", x.gate(6, 0, 1), 3);
        for (int kind : new int[] {MIN, -2, -1, 7, 8, MAX}) {
            CHECK.refuses("kind " + kind, ARGUMENT, () -> x.gate(kind, 0, 1));
        }
        CHECK.is("count(0) behind them", x.count(0), 4);
    }

    /** Each wrong alone, and each two and three that can be wrong at once. */
    private static void gateNamedFirst() {
        CHECK.about("IndexOutOfBoundsException; IllegalStateException: there are 100; IllegalArgumentException");
        FaultSearch room = Chips.withInputs(2);
        FaultSearch full = Chips.copies(2, 100);
        CHECK.refuses("no such kind", ARGUMENT, () -> room.gate(7, 0, 1));
        CHECK.refuses("no such a, no such kind", INDEX, () -> room.gate(7, 2, 1));
        CHECK.refuses("no such b, no such kind", INDEX, () -> room.gate(-1, 0, 2));
        CHECK.refuses("no such a and b, no such kind", INDEX, () -> room.gate(MAX, -1, 2));
        CHECK.refuses("100 nets", STATE, () -> full.gate(0, 0, 1));
        CHECK.refuses("100 nets, kind 5 without b", STATE, () -> full.gate(5, 99, 100));
        CHECK.refuses("100 nets, kind 6 without b", STATE, () -> full.gate(6, 99, -1));
        CHECK.refuses("100 nets, no such kind", STATE, () -> full.gate(7, 0, 1));
        CHECK.refuses("100 nets, kind -1", STATE, () -> full.gate(-1, 99, 99));
        CHECK.refuses("100 nets, no such a", INDEX, () -> full.gate(0, 100, 1));
        CHECK.refuses("100 nets, no such b", INDEX, () -> full.gate(0, 0, 100));
        CHECK.refuses("100 nets, no such a of kind 5", INDEX, () -> full.gate(5, 100, 1));
        CHECK.refuses("100 nets, no such a, no such kind", INDEX, () -> full.gate(7, -1, 1));
        CHECK.refuses("100 nets, no such b, no such kind", INDEX, () -> full.gate(-1, 0, 100));
    }

    private static void twelveOutputs() {
        CHECK.about("OUTPUTS are nets, numbered likewise (12 at most)");
        FaultSearch x = Chips.copies(1, 20);
        for (int number = 0; number < 12; number++) {
            CHECK.is("output(" + (19 - number) + ")", x.output(19 - number), number);
        }
        CHECK.is("count(2)", x.count(2), 12);
        CHECK.refuses("13th output, of a net that is none", STATE, () -> x.output(0));
        CHECK.refuses("13th output, of a net that is one", STATE, () -> x.output(19));
        CHECK.is("count(2) behind them", x.count(2), 12);

        CHECK.about("IndexOutOfBoundsException; IllegalStateException: there are 12");
        for (int net : new int[] {MIN, -1, 20, MAX}) {
            CHECK.refuses("13th output, of net " + net, INDEX, () -> x.output(net));
        }
        FaultSearch room = Chips.copies(1, 20);
        for (int net : new int[] {MIN, -2, -1, 20, 21, MAX}) {
            CHECK.refuses("output(" + net + ") of 20 nets", INDEX, () -> room.output(net));
        }
        CHECK.is("output(19), the last net", room.output(19), 0);
        CHECK.is("output(0), the first net", room.output(0), 1);
        CHECK.is("gate with outputs", room.gate(5, 19, NONE), 20);
        CHECK.is("output of a net that came behind outputs", room.output(20), 2);
    }

    private static void onceMore() {
        CHECK.about("A net is an output, too (once more, if it was one): its number");
        FaultSearch x = Chips.oneGate(0);
        for (int number = 1; number < 12; number++) {
            CHECK.is("output(2) once more", x.output(2), number);
            CHECK.is("count(2)", x.count(2), number + 1);
        }
        CHECK.refuses("output(2) a 13th time", STATE, () -> x.output(2));
        CHECK.is("faults() as with one output", x.faults(), 4);
        CHECK.is("test(0) as with one output", x.test(0), 3);
        CHECK.is("shown(3) as with one output", x.shown(3), 3);
        FaultSearch ran = Chips.oneGate(0);
        ran.run();
        ran.output(2);
        CHECK.is("count(3): an output came", ran.count(3), 0);
        CHECK.is("count(4): an output came", ran.count(4), 0);
    }

    private static void bitsOfInputs() {
        CHECK.about("value: bits of inputs that there are not do not count");
        for (int inputs = 1; inputs <= 10; inputs++) {
            FaultSearch x = Chips.withInputs(inputs);
            int all = (1 << inputs) - 1;
            for (int net = 0; net < inputs; net++) {
                String of = "input " + net + " of " + inputs;
                CHECK.is(of + " in all", x.value(net, all), 1);
                CHECK.is(of + " in none", x.value(net, 0), 0);
                CHECK.is(of + " in the bit beyond", x.value(net, all + 1), 0);
                CHECK.is(of + " in all but the bits there are", x.value(net, ~all), 0);
                CHECK.is(of + " in -1", x.value(net, -1), 1);
                CHECK.is(of + " in -2", x.value(net, -2), net == 0 ? 0 : 1);
                CHECK.is(of + " in MIN", x.value(net, MIN), 0);
                CHECK.is(of + " in MAX", x.value(net, MAX), 1);
            }
        }
        FaultSearch grows = Chips.withInputs(2);
        grows.gate(1, 0, 1);
        CHECK.is("0 OR 1 in 4, two inputs", grows.value(2, 4), 0);
        grows.input();
        CHECK.is("0 OR 1 in 4, three inputs", grows.value(2, 4), 0);
        CHECK.is("input 2 in 4, three inputs", grows.value(3, 4), 1);
        CHECK.is("input 2 in -5", grows.value(3, -5), 0);

        CHECK.about("value: IndexOutOfBoundsException");
        for (int net : new int[] {MIN, -2, -1, 4, 5, MAX}) {
            CHECK.refuses("value(" + net + ", 0) of 4 nets", INDEX, () -> grows.value(net, 0));
        }
        CHECK.is("value of the first net", grows.value(0, 1), 1);
        CHECK.is("value of the last net", grows.value(3, 7), 1);
    }

    private static void everyMethodOfNothing(FaultSearch x) {
        for (int what = 0; what < 6; what++) {
            CHECK.is("count(" + what + ")", x.count(what), 0);
        }
        CHECK.refuses("count(-1)", INDEX, () -> x.count(-1));
        CHECK.refuses("count(6)", INDEX, () -> x.count(6));
        CHECK.is("faults()", x.faults(), 0);
        CHECK.is("left(0)", x.left(0), NONE);
        CHECK.is("left(MAX)", x.left(MAX), NONE);
        CHECK.refuses("left(-1)", INDEX, () -> x.left(-1));
        for (int n : ANY) {
            CHECK.refuses("value(" + n + ", 0)", INDEX, () -> x.value(n, 0));
            CHECK.refuses("output(" + n + ")", INDEX, () -> x.output(n));
            CHECK.refuses("gate(0, " + n + ", 0)", INDEX, () -> x.gate(0, n, 0));
            CHECK.refuses("gate(" + n + ", 0, 0)", INDEX, () -> x.gate(n, 0, 0));
            CHECK.refuses("fault(" + n + ", 0)", INDEX, () -> x.fault(n, 0));
            CHECK.refuses("classOf(" + n + ", NONE, 0)", INDEX, () -> x.classOf(n, NONE, 0));
            CHECK.refuses("test(" + n + ")", INDEX, () -> x.test(n));
            CHECK.refuses("shows(0, " + n + ")", INDEX, () -> x.shows(0, n));
            CHECK.refuses("shown(" + n + ")", INDEX, () -> x.shown(n));
            CHECK.refuses("pattern(" + n + ")", INDEX, () -> x.pattern(n));
            CHECK.refuses("slow(" + n + ", 0, 0)", INDEX, () -> x.slow(n, 0, 0));
            CHECK.is("simulate(" + n + ")", x.simulate(n), 0);
        }
        CHECK.is("run()", x.run(), 0);
        CHECK.refuses("pattern(0) behind run()", INDEX, () -> x.pattern(0));
        x.reset();
        CHECK.is("run() behind reset()", x.run(), 0);
        CHECK.is("count(4) behind run()", x.count(4), 0);
        CHECK.is("count(0) behind all of it", x.count(0), 0);
    }

    /** All that fits into an object fits into this one. */
    private static void takesAll(FaultSearch x) {
        for (int net = 0; net < 10; net++) {
            CHECK.is("input()", x.input(), net);
        }
        CHECK.refuses("11th input()", STATE, x::input);
        for (int net = 10; net < 100; net++) {
            CHECK.is("gate", x.gate(6, net - 10, NONE), net);
        }
        CHECK.refuses("gate as the 101st net", STATE, () -> x.gate(6, 0, NONE));
        for (int number = 0; number < 12; number++) {
            CHECK.is("output", x.output(99), number);
        }
        CHECK.refuses("13th output", STATE, () -> x.output(99));
        CHECK.is("value(99, 512)", x.value(99, 512), 1);
        CHECK.is("count(3)", x.count(3), 0);
        CHECK.is("count(4)", x.count(4), 0);
        // Ten rows of copies, the one of input 9 with an output at its end: of 20 classes two can be shown.
        CHECK.is("faults()", x.faults(), 20);
        CHECK.is("count(5)", x.count(5), 18);
        CHECK.is("run()", x.run(), 2);
        CHECK.is("pattern(0)", x.pattern(0), 512);
        CHECK.is("pattern(1)", x.pattern(1), 0);
    }

    private static void newObject() {
        CHECK.about("FaultSearch(): Nothing at all.");
        everyMethodOfNothing(new FaultSearch());
        takesAll(new FaultSearch());
        FaultSearch used = Chips.full();
        used.run();
        everyMethodOfNothing(new FaultSearch());
        CHECK.is("count(0) of one used before", used.count(0), 100);
    }

    private static void cleared() {
        CHECK.about("clear(): Nothing at all.");
        FaultSearch never = new FaultSearch();
        never.clear();
        everyMethodOfNothing(never);
        FaultSearch input = Chips.withInputs(1);
        input.clear();
        everyMethodOfNothing(input);
        FaultSearch full = Chips.full();
        full.run();
        full.clear();
        everyMethodOfNothing(full);
        full.clear();
        takesAll(full);
        FaultSearch found = Chips.oneGate(2);
        found.run();
        found.clear();
        Chips.addInputs(found, 2);
        found.gate(2, 0, 1);
        found.output(2);
        CHECK.is("count(3) of the same chip once more", found.count(3), 0);
        CHECK.is("left(0)", found.left(0), 0);
        CHECK.refuses("pattern(0)", INDEX, () -> found.pattern(0));
        CHECK.is("simulate(0)", found.simulate(0), 3);
    }

    public static void main(String[] args) {
        hundredNets();
        tenInputs();
        netsBefore();
        oneSource();
        sevenKinds();
        gateNamedFirst();
        twelveOutputs();
        onceMore();
        bitsOfInputs();
        newObject();
        cleared();
        CHECK.end();
    }
}
