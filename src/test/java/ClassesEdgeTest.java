/** The edges of lines, classes and their order: promises 6 to 8, and part 2 of the terms. */
public final class ClassesEdgeTest {
    private static final Class<IndexOutOfBoundsException> INDEX = IndexOutOfBoundsException.class;
    private static final int NONE = FaultSearch.NONE;
    private static final int MIN = Integer.MIN_VALUE;
    private static final int MAX = Integer.MAX_VALUE;
    private static final int XOR = 2;

    /** By kinds and by what a pin is stuck at: at what the gate's net is stuck in the same class. */
    private static final int[][] GATE_RULES = {
        {0, NONE}, {NONE, 1}, {NONE, NONE}, {1, NONE}, {NONE, 0}, {1, 0}, {0, 1}
    };

    private static final Check CHECK = new Check("ClassesEdgeTest");

    private ClassesEdgeTest() {
    }

    private static int pins(int kind) {
        return kind < 5 ? 2 : 1;
    }

    private static void fault(FaultSearch x, int k, int... due) {
        for (int what = 0; what < 4; what++) {
            CHECK.is("fault(" + k + ", " + what + ")", x.fault(k, what), due[what]);
        }
    }

    private static void pinsOfKinds() {
        CHECK.about("5 and 6 have one PIN, pin 0, others pins 0 and 1");
        for (int kind = 0; kind < 7; kind++) {
            FaultSearch x = Chips.oneGate(kind);
            int many = x.faults();
            int faults = 0;
            for (int k = 0; k < many; k++) {
                faults += x.fault(k, 3);
            }
            CHECK.is("faults of all classes, kind " + kind, faults, 2 * (3 + pins(kind)));
            for (int v = 0; v < 2; v++) {
                int at = v;
                for (int pin = NONE; pin < pins(kind); pin++) {
                    int k = x.classOf(2, pin, v);
                    CHECK.is("classOf(2, " + pin + ", " + v + ") is a class", k >= 0 && k < many, true);
                }
                for (int pin = pins(kind); pin < 4; pin++) {
                    int no = pin;
                    CHECK.refuses("pin " + pin + " of kind " + kind, INDEX, () -> x.classOf(2, no, at));
                }
            }
        }
    }

    /** The inputs are outputs, too: what is of one class then is so by the gate's rule alone. */
    private static void gateRules() {
        CHECK.about("a pin of an AND stuck at 0 and its gate's net stuck at 0; OR: 1 and 1; ..");
        int[] classes = {8, 8, 10, 8, 8, 6, 6};
        for (int kind = 0; kind < 7; kind++) {
            FaultSearch x = Chips.oneGate(kind);
            x.output(0);
            x.output(1);
            CHECK.is("faults() of kind " + kind, x.faults(), classes[kind]);
            for (int pin = 0; pin < pins(kind); pin++) {
                for (int u = 0; u < 2; u++) {
                    for (int w = 0; w < 2; w++) {
                        String of = "kind " + kind + " pin " + pin + " at " + u + ", net at " + w;
                        boolean one = x.classOf(2, pin, u) == x.classOf(2, NONE, w);
                        CHECK.is(of, one, GATE_RULES[kind][u] == w);
                    }
                    int alone = GATE_RULES[kind][u] == NONE ? 1 : 1 + pins(kind);
                    CHECK.is("faults of the class of pin " + pin, x.fault(x.classOf(2, pin, u), 3), alone);
                }
            }
        }
    }

    private static void sourceRule(String when, FaultSearch x, int source, int net, int pin, boolean due) {
        for (int v = 0; v < 2; v++) {
            String of = when + " net " + source + " and pin " + pin + " of net " + net + " at " + v;
            CHECK.is(of, x.classOf(source, NONE, v) == x.classOf(net, pin, v), due);
            CHECK.is(of + " and " + (1 - v), x.classOf(source, NONE, v) == x.classOf(net, pin, 1 - v), false);
            CHECK.is("faults of the class", x.fault(x.classOf(source, NONE, v), 3), due ? 2 : 1);
        }
    }

    /** XOR has no rule of its own, so that a net is of one class with a pin by this rule alone. */
    private static void takenByOne() {
        CHECK.about("a net that just one pin takes, and that is no output");
        FaultSearch x = Chips.withInputs(2);
        CHECK.is("taken by none: faults()", x.faults(), 4);
        CHECK.is("taken by none: faults of the class", x.fault(0, 3), 1);
        x.gate(XOR, 0, 1);
        sourceRule("taken by one:", x, 0, 2, 0, true);
        sourceRule("taken by one:", x, 1, 2, 1, true);
        x.gate(XOR, 2, 1);
        sourceRule("the other taken by two gates:", x, 0, 2, 0, true);
        sourceRule("taken by two gates:", x, 1, 2, 1, false);
        sourceRule("taken by two gates:", x, 1, 3, 1, false);
        sourceRule("a gate's, taken by one:", x, 2, 3, 0, true);
        x.output(1);
        sourceRule("taken by two gates, an output:", x, 1, 2, 1, false);
        sourceRule("taken by two gates, an output:", x, 1, 3, 1, false);
        x.output(0);
        sourceRule("taken by one, an output:", x, 0, 2, 0, false);
        x.output(2);
        sourceRule("a gate's, taken by one, an output:", x, 2, 3, 0, false);
        x.output(2);
        sourceRule("an output twice:", x, 2, 3, 0, false);
        x.output(3);
        CHECK.is("an output taken by none", x.fault(x.classOf(3, NONE, 0), 3), 1);
    }

    private static void takenTwiceByOneGate() {
        CHECK.about("A net that is at two pins of a gate is taken by two");
        FaultSearch x = Chips.metItself(XOR);
        sourceRule("at both pins:", x, 0, 1, 0, false);
        sourceRule("at both pins:", x, 0, 1, 1, false);
        CHECK.is("faults() of a XOR of one net", x.faults(), 8);
        // Pins 0 and 1 of an AND at 0 are one class with its net at 0, but net 0 at 0 stays apart.
        FaultSearch and = Chips.metItself(0);
        CHECK.is("faults() of an AND of one net", and.faults(), 6);
        CHECK.is("classOf(0, NONE, 0)", and.classOf(0, NONE, 0), 0);
        CHECK.is("classOf(1, 0, 0)", and.classOf(1, 0, 0), 2);
        CHECK.is("classOf(1, 1, 0)", and.classOf(1, 1, 0), 2);
    }

    private static void notTakenByB() {
        CHECK.about("kinds 5 and 6 do not ask for b: what is told as b is taken by no pin");
        for (int kind = 5; kind < 7; kind++) {
            FaultSearch x = Chips.metItself(kind);
            CHECK.is("faults(): net 0 is taken by one", x.faults(), 2);
            CHECK.is("faults of class 0", x.fault(0, 3), 3);
            FaultSearch other = Chips.oneGate(kind);
            CHECK.is("faults(): net 1 is taken by none", other.faults(), 4);
            other.gate(XOR, 1, 0);
            sourceRule("told as b, and taken by one:", other, 1, 3, 0, true);
        }
    }

    private static void overOthers() {
        CHECK.about("FAULTS are of one CLASS by these rules, and over others");
        FaultSearch x = Chips.copies(1, 100);
        CHECK.is("faults() of 99 copies", x.faults(), 2);
        fault(x, 0, 0, NONE, 0, 199);
        fault(x, 1, 0, NONE, 1, 199);
        CHECK.is("classOf(99, 0, 1)", x.classOf(99, 0, 1), 1);
        // An AND of ten, one behind the other: all at 0 are one class, at 1 a net and its pin.
        FaultSearch ten = Chips.withInputs(10);
        for (int net = 10; net < 19; net++) {
            ten.gate(0, net == 10 ? 0 : net - 1, net - 9);
        }
        CHECK.is("faults() of an AND of ten", ten.faults(), 20);
        fault(ten, 0, 0, NONE, 0, 37);
        fault(ten, 1, 0, NONE, 1, 2);
        fault(ten, 19, 18, NONE, 1, 1);
        // Found late: two classes that stood apart so far become one by the last rule of the last gate.
        FaultSearch late = Chips.withInputs(2);
        late.gate(6, 1, NONE);
        late.gate(6, 0, NONE);
        late.gate(0, 2, 3);
        CHECK.is("classOf(1, NONE, 0)", late.classOf(1, NONE, 0), 0);
        CHECK.is("classOf(1, NONE, 1)", late.classOf(1, NONE, 1), 2);
        fault(late, 0, 0, NONE, 0, 9);
    }

    private static void order() {
        CHECK.about("by nets; the net before its pins, pin 0 before 1; stuck at 0 before 1");
        FaultSearch x = Chips.metItself(XOR);
        int[][] due = {
            {0, NONE, 0, 1}, {0, NONE, 1, 1}, {1, NONE, 0, 1}, {1, NONE, 1, 1},
            {1, 0, 0, 1}, {1, 0, 1, 1}, {1, 1, 0, 1}, {1, 1, 1, 1}
        };
        for (int k = 0; k < due.length; k++) {
            fault(x, k, due[k]);
            CHECK.is("classOf its first fault", x.classOf(due[k][0], due[k][1], due[k][2]), k);
        }
        CHECK.about("Classes have numbers by their first faults");
        FaultSearch or = Chips.metItself(1);
        int[][] ofOr = {
            {0, NONE, 0, 1}, {0, NONE, 1, 1}, {1, NONE, 0, 1}, {1, NONE, 1, 3}, {1, 0, 0, 1}, {1, 1, 0, 1}
        };
        CHECK.is("faults() of an OR of one net", or.faults(), 6);
        for (int k = 0; k < ofOr.length; k++) {
            fault(or, k, ofOr[k]);
        }
        // The NOT AND's net at 1 has a number by its pins' nets, before its net at 0.
        FaultSearch notAnd = Chips.oneGate(3);
        CHECK.is("net 2 at 1", notAnd.classOf(2, NONE, 1), 0);
        CHECK.is("net 2 at 0", notAnd.classOf(2, NONE, 0), 3);
    }

    private static void howManyClasses() {
        CHECK.about("faults(): How many classes there are");
        FaultSearch x = new FaultSearch();
        CHECK.is("of nothing", x.faults(), 0);
        for (int net = 0; net < 10; net++) {
            x.input();
            CHECK.is("of " + (net + 1) + " inputs", x.faults(), 2 * net + 2);
        }
        // The most there can be: input 0 at all pins of 99 gates that have no rule.
        FaultSearch most = Chips.withInputs(1);
        for (int net = 1; net < 100; net++) {
            most.gate(XOR, 0, 0);
        }
        CHECK.is("of 99 XORs", most.faults(), 596);
        fault(most, 595, 99, 1, 1, 1);
        CHECK.refuses("fault(596, 0)", INDEX, () -> most.fault(596, 0));
        CHECK.is("classOf(99, 1, 1)", most.classOf(99, 1, 1), 595);
        CHECK.is("left(595)", most.left(595), 595);
        CHECK.is("left(596)", most.left(596), NONE);
        CHECK.is("count(5)", most.count(5), 596);
    }

    private static void wrongFault() {
        CHECK.about("what = 0 its net, 1 the pin (NONE: the net itself), 2 at what it is stuck, 3 how many");
        FaultSearch x = Chips.metItself(XOR);
        fault(x, 0, 0, NONE, 0, 1);
        fault(x, 7, 1, 1, 1, 1);
        for (int wrong : new int[] {MIN, -2, -1, 4, 5, MAX}) {
            CHECK.refuses("fault(0, " + wrong + ")", INDEX, () -> x.fault(0, wrong));
            CHECK.refuses("fault(7, " + wrong + ")", INDEX, () -> x.fault(7, wrong));
        }
        for (int wrong : new int[] {MIN, -2, -1, 8, 9, MAX}) {
            for (int what = 0; what < 4; what++) {
                int of = what;
                CHECK.refuses("fault(" + wrong + ", " + what + ") of 8 classes", INDEX, () -> x.fault(wrong, of));
            }
        }
        CHECK.refuses("fault(8, 4)", INDEX, () -> x.fault(8, 4));
    }

    private static void wrongLine() {
        CHECK.about("also if the net is an input's and has no pins, or v is neither 0 nor 1");
        FaultSearch x = Chips.oneGate(XOR);
        for (int input = 0; input < 2; input++) {
            int net = input;
            for (int pin : new int[] {MIN, -2, 0, 1, 2, MAX}) {
                CHECK.refuses("pin " + pin + " of input " + net, INDEX, () -> x.classOf(net, pin, 0));
                CHECK.refuses("pin " + pin + " of input " + net, INDEX, () -> x.classOf(net, pin, 1));
            }
            CHECK.is("input " + net + " itself at 0", x.classOf(net, NONE, 0), 2 * net);
            CHECK.is("input " + net + " itself at 1", x.classOf(net, NONE, 1), 2 * net + 1);
        }
        for (int pin : new int[] {MIN, -2, 2, 3, MAX}) {
            CHECK.refuses("pin " + pin + " of a XOR", INDEX, () -> x.classOf(2, pin, 0));
        }
        for (int v : new int[] {MIN, -2, -1, 2, 3, MAX}) {
            CHECK.refuses("input 0 at " + v, INDEX, () -> x.classOf(0, NONE, v));
            CHECK.refuses("a gate's net at " + v, INDEX, () -> x.classOf(2, NONE, v));
            CHECK.refuses("pin 1 at " + v, INDEX, () -> x.classOf(2, 1, v));
        }
        for (int net : new int[] {MIN, -2, -1, 3, 4, MAX}) {
            CHECK.refuses("net " + net + " itself", INDEX, () -> x.classOf(net, NONE, 0));
            CHECK.refuses("pin 0 of net " + net, INDEX, () -> x.classOf(net, 0, 0));
        }
        // An input that comes after a cleared gate of its number has no pins of it.
        x.clear();
        Chips.addInputs(x, 3);
        CHECK.refuses("pin 0 of a net that was a gate's", INDEX, () -> x.classOf(2, 0, 0));
    }

    public static void main(String[] args) {
        pinsOfKinds();
        gateRules();
        takenByOne();
        takenTwiceByOneGate();
        notTakenByB();
        overOthers();
        order();
        howManyClasses();
        wrongFault();
        wrongLine();
        CHECK.end();
    }
}
