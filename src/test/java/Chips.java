/** Chips that several tests begin with. */
final class Chips {
    static final int NONE = FaultSearch.NONE;

    private Chips() {
    }

    static FaultSearch withInputs(int many) {
        FaultSearch x = new FaultSearch();
        addInputs(x, many);
        return x;
    }

    static void addInputs(FaultSearch x, int many) {
        for (int i = 0; i < many; i++) {
            x.input();
        }
    }

    /** Inputs 0 and 1, net 2 a gate of both, an output. */
    static FaultSearch oneGate(int kind) {
        FaultSearch x = withInputs(2);
        x.gate(kind, 0, 1);
        x.output(2);
        return x;
    }

    /** Input 0 at both pins of net 1, an output: of kind 2 it is always 0. */
    static FaultSearch metItself(int kind) {
        FaultSearch x = withInputs(1);
        x.gate(kind, 0, 0);
        x.output(1);
        return x;
    }

    /**
     * Inputs 0, 1, 2; 3 = 0 AND 1; 4 = NOT 0; 5 = 4 AND 2; 6 = 1 AND 2; 7 = 3 OR 5; 8 = 7 OR 6, an output.
     * Net 6 is needed by no assignment: stuck at 0 it is never shown.
     */
    static FaultSearch chooser() {
        FaultSearch x = withInputs(3);
        x.gate(0, 0, 1);
        x.gate(5, 0, NONE);
        x.gate(0, 4, 2);
        x.gate(0, 1, 2);
        x.gate(1, 3, 5);
        x.gate(1, 7, 6);
        x.output(8);
        return x;
    }

    /**
     * Inputs 0, 1, 2; 3 = 0 XOR 1; 4 = 3 XOR 2, the sum; 5 = 0 AND 1; 6 = 3 AND 2; 7 = 5 OR 6, the carry;
     * outputs 4 and 7.
     */
    static FaultSearch adder() {
        FaultSearch x = withInputs(3);
        x.gate(2, 0, 1);
        x.gate(2, 3, 2);
        x.gate(0, 0, 1);
        x.gate(0, 3, 2);
        x.gate(1, 5, 6);
        x.output(4);
        x.output(7);
        return x;
    }

    /** The first inputs, then copies each of the net before it, up to so many nets. */
    static FaultSearch copies(int inputs, int nets) {
        FaultSearch x = withInputs(inputs);
        for (int net = inputs; net < nets; net++) {
            x.gate(6, net - 1, NONE);
        }
        return x;
    }

    /** All that an object takes: 10 inputs, 90 gates of all kinds, 12 outputs; 112 calls. */
    static FaultSearch full() {
        FaultSearch x = withInputs(10);
        for (int net = 10; net < 100; net++) {
            x.gate(net % 7, net - 1, net - 10);
        }
        for (int number = 0; number < 12; number++) {
            x.output(99 - number);
        }
        return x;
    }
}
