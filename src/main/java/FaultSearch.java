/** Tests for chips whose lines are stuck or whose nets are slow. */
public final class FaultSearch {

    public static final int NONE = -1;

    private static final int MOST_NETS = 100;
    private static final int MOST_INPUTS = 10;
    private static final int MOST_OUTPUTS = 12;

    /** Ten inputs have 1,024 assignments; a long has room for the bits of 64 of them. */
    private static final int BITS_OF_WORD = 64;
    private static final int MOST_WORDS = 16;

    /** Inputs 0 to 5 tell the bits of a word apart, the inputs from this one on tell the words apart. */
    private static final int INPUTS_OF_WORD = 6;

    /** Room for the net, pin 0 and pin 1, each stuck at 0 and at 1, whether a net has the pins or not. */
    private static final int FAULTS_OF_NET = 6;
    private static final int MOST_FAULTS = MOST_NETS * FAULTS_OF_NET;

    private static final int INPUT = -1;
    private static final int AND = 0;
    private static final int OR = 1;
    private static final int XOR = 2;
    private static final int NOT_AND = 3;
    private static final int NOT_OR = 4;
    private static final int NOT = 5;
    private static final int SAME = 6;

    /** Bit i of entry k is bit k of i: the values of input k in the 64 assignments of a word. */
    private static final long[] INPUT_WORDS = {
        0xAAAAAAAAAAAAAAAAL, 0xCCCCCCCCCCCCCCCCL, 0xF0F0F0F0F0F0F0F0L,
        0xFF00FF00FF00FF00L, 0xFFFF0000FFFF0000L, 0xFFFFFFFF00000000L
    };

    private final Chip chip;
    private final Classes classes;
    private final Sight sight;
    private final Progress progress;

    /** Whether the classes are those of an earlier state of the chip. */
    private boolean stale;

    public FaultSearch() {
        chip = new Chip();
        classes = new Classes();
        sight = new Sight(chip);
        progress = new Progress();
        stale = false;
    }

    public int input() throws IllegalStateException {
        if (chip.inputs >= MOST_INPUTS || chip.nets >= MOST_NETS) {
            throw new IllegalStateException("no room for an input");
        }
        int net = chip.addInput();
        forgetDerived();
        return net;
    }

    public int gate(int kind, int a, int b)
            throws IndexOutOfBoundsException, IllegalStateException, IllegalArgumentException {
        if (!chip.hasNet(a) || (!isOnePin(kind) && !chip.hasNet(b))) {
            throw new IndexOutOfBoundsException("no such net");
        }
        if (chip.nets >= MOST_NETS) {
            throw new IllegalStateException("no room for a gate");
        }
        if (kind < AND || kind > SAME) {
            throw new IllegalArgumentException("no such kind");
        }
        int net = chip.addGate(kind, a, isOnePin(kind) ? a : b);
        forgetDerived();
        return net;
    }

    public int output(int net) throws IndexOutOfBoundsException, IllegalStateException {
        requireNet(net);
        if (chip.outputs >= MOST_OUTPUTS) {
            throw new IllegalStateException("no room for an output");
        }
        int number = chip.addOutput(net);
        forgetDerived();
        return number;
    }

    public int value(int net, int assignment) throws IndexOutOfBoundsException {
        requireNet(net);
        int known = chip.known(assignment);
        return bitOf(chip.wordOf(net, known / BITS_OF_WORD), known);
    }

    public int faults() {
        refresh();
        return classes.size;
    }

    public int fault(int k, int what) throws IndexOutOfBoundsException {
        requireClass(k);
        int first = classes.firsts[k];
        switch (what) {
            case 0:
                return netOf(first);
            case 1:
                return pinOf(first);
            case 2:
                return stuckOf(first);
            case 3:
                return classes.members[k];
            default:
                throw new IndexOutOfBoundsException("no such what");
        }
    }

    public int classOf(int net, int pin, int v) throws IndexOutOfBoundsException {
        requireNet(net);
        if (pin < NONE || pin >= chip.pins(net)) {
            throw new IndexOutOfBoundsException("no such pin");
        }
        requireBit(v);
        refresh();
        return classes.numbers[faultOf(net, pin, v)];
    }

    public int test(int k) throws IndexOutOfBoundsException {
        requireClass(k);
        return sight.least(classes.firsts[k]);
    }

    public boolean shows(int assignment, int k) throws IndexOutOfBoundsException {
        requireClass(k);
        return sight.isSeen(classes.firsts[k], chip.known(assignment));
    }

    public int shown(int k) throws IndexOutOfBoundsException {
        requireClass(k);
        return sight.howMany(classes.firsts[k]);
    }

    public int run() {
        refresh();
        progress.testCount = 0;
        for (int k = 0; k < classes.size; k++) {
            int test = progress.found[k] ? NONE : sight.least(classes.firsts[k]);
            if (test != NONE && progress.hasRoom()) {
                progress.addTest(test);
                findBy(test);
            }
        }
        return progress.testCount;
    }

    public int pattern(int i) throws IndexOutOfBoundsException {
        if (i < 0 || i >= progress.testCount) {
            throw new IndexOutOfBoundsException("no such test");
        }
        return progress.tests[i];
    }

    public int simulate(int assignment) {
        refresh();
        return findBy(chip.known(assignment));
    }

    public int left(int i) throws IndexOutOfBoundsException {
        if (i < 0) {
            throw new IndexOutOfBoundsException("below 0");
        }
        refresh();
        return progress.missing(i, classes.size);
    }

    public void reset() {
        progress.forgetFound();
    }

    public int slow(int net, int v, int which) throws IndexOutOfBoundsException {
        requireNet(net);
        requireBit(v);
        requireBit(which);
        int showing = sight.least(faultOf(net, NONE, 1 - v));
        int before = chip.leastWith(net, 1 - v);
        if (showing == NONE || before == NONE) {
            return NONE;
        }
        return which == 0 ? before : showing;
    }

    public int count(int what) throws IndexOutOfBoundsException {
        switch (what) {
            case 0:
                return chip.nets;
            case 1:
                return chip.inputs;
            case 2:
                return chip.outputs;
            case 3:
                return progress.foundCount;
            case 4:
                return progress.testCount;
            case 5:
                return untestable();
            default:
                throw new IndexOutOfBoundsException("no such what");
        }
    }

    public void clear() {
        chip.empty();
        forgetDerived();
    }

    private void requireNet(int net) {
        if (!chip.hasNet(net)) {
            throw new IndexOutOfBoundsException("no such net");
        }
    }

    private void requireClass(int k) {
        refresh();
        if (k < 0 || k >= classes.size) {
            throw new IndexOutOfBoundsException("no such class");
        }
    }

    private static void requireBit(int v) {
        if (v != 0 && v != 1) {
            throw new IndexOutOfBoundsException("neither 0 nor 1");
        }
    }

    /** What was found, and the tests of a run, hold for one state of the chip alone. */
    private void forgetDerived() {
        stale = true;
        sight.forget();
        progress.forgetFound();
        progress.testCount = 0;
    }

    private void refresh() {
        if (stale) {
            classes.sort(chip);
            stale = false;
        }
    }

    private int findBy(int known) {
        int news = 0;
        for (int k = 0; k < classes.size; k++) {
            if (!progress.found[k] && sight.isSeen(classes.firsts[k], known)) {
                progress.found[k] = true;
                news++;
            }
        }
        progress.foundCount += news;
        return news;
    }

    private int untestable() {
        refresh();
        int many = 0;
        for (int k = 0; k < classes.size; k++) {
            if (sight.least(classes.firsts[k]) == NONE) {
                many++;
            }
        }
        return many;
    }

    private static boolean isOnePin(int kind) {
        return kind == NOT || kind == SAME;
    }

    /** The order of these numbers is the order of faults. */
    private static int faultOf(int net, int pin, int v) {
        return net * FAULTS_OF_NET + (pin + 1) * 2 + v;
    }

    private static int netOf(int fault) {
        return fault / FAULTS_OF_NET;
    }

    private static int pinOf(int fault) {
        return fault % FAULTS_OF_NET / 2 - 1;
    }

    private static int stuckOf(int fault) {
        return fault % 2;
    }

    private static long allOf(int v) {
        return v == 0 ? 0L : -1L;
    }

    /** Of a shift's distance the machine takes the lowest six bits: the assignment's place in its word. */
    private static int bitOf(long word, int assignment) {
        return (int) (word >>> assignment & 1L);
    }

    private static int lowestBit(long word) {
        return Long.bitCount((word & -word) - 1L);
    }

    private static long gateWord(int kind, long a, long b) {
        switch (kind) {
            case AND:
                return a & b;
            case OR:
                return a | b;
            case XOR:
                return a ^ b;
            case NOT_AND:
                return ~(a & b);
            case NOT_OR:
                return ~(a | b);
            case NOT:
                return ~a;
            default:
                return a;
        }
    }

    /** The nets and outputs as they came, and each net's values in all assignments. */
    private static final class Chip {
        final int[] kinds = new int[MOST_NETS];
        final int[] sources0 = new int[MOST_NETS];
        final int[] sources1 = new int[MOST_NETS];
        final int[] outputNets = new int[MOST_OUTPUTS];

        /**
         * By words, then nets. All words of ten inputs are kept from the start: what a net is in them
         * stays true when more inputs come.
         */
        final long[] values = new long[MOST_WORDS * MOST_NETS];

        int nets;
        int inputs;
        int outputs;

        void empty() {
            nets = 0;
            inputs = 0;
            outputs = 0;
        }

        boolean hasNet(int net) {
            return net >= 0 && net < nets;
        }

        int pins(int net) {
            if (kinds[net] == INPUT) {
                return 0;
            }
            return isOnePin(kinds[net]) ? 1 : 2;
        }

        int source(int net, int pin) {
            return pin == 0 ? sources0[net] : sources1[net];
        }

        int addInput() {
            int net = nets;
            kinds[net] = INPUT;
            for (int word = 0; word < MOST_WORDS; word++) {
                values[word * MOST_NETS + net] = inputWord(inputs, word);
            }
            nets++;
            inputs++;
            return net;
        }

        int addGate(int kind, int a, int b) {
            int net = nets;
            kinds[net] = kind;
            sources0[net] = a;
            sources1[net] = b;
            for (int word = 0; word < MOST_WORDS; word++) {
                values[word * MOST_NETS + net] = gateWord(kind, wordOf(a, word), wordOf(b, word));
            }
            nets++;
            return net;
        }

        int addOutput(int net) {
            int number = outputs;
            outputNets[number] = net;
            outputs++;
            return number;
        }

        long wordOf(int net, int word) {
            return values[word * MOST_NETS + net];
        }

        int words() {
            return inputs <= INPUTS_OF_WORD ? 1 : 1 << (inputs - INPUTS_OF_WORD);
        }

        /** The bits of a word that are assignments of the inputs there are. */
        long mask() {
            return inputs >= INPUTS_OF_WORD ? -1L : (1L << (1 << inputs)) - 1L;
        }

        /** The assignment without the bits of inputs that there are not. */
        int known(int assignment) {
            return assignment & ((1 << inputs) - 1);
        }

        int leastWith(int net, int v) {
            for (int word = 0; word < words(); word++) {
                long having = ~(wordOf(net, word) ^ allOf(v)) & mask();
                if (having != 0L) {
                    return word * BITS_OF_WORD + lowestBit(having);
                }
            }
            return NONE;
        }

        private static long inputWord(int number, int word) {
            if (number < INPUTS_OF_WORD) {
                return INPUT_WORDS[number];
            }
            return allOf(word >> (number - INPUTS_OF_WORD) & 1);
        }
    }

    /** Which faults are of one class: chains of parents end at the first fault of the class. */
    private static final class Classes {
        final int[] parents = new int[MOST_FAULTS];
        final int[] numbers = new int[MOST_FAULTS];
        final int[] firsts = new int[MOST_FAULTS];
        final int[] members = new int[MOST_FAULTS];
        final int[] uses = new int[MOST_NETS];
        int size;

        void sort(Chip chip) {
            for (int fault = 0; fault < MOST_FAULTS; fault++) {
                parents[fault] = fault;
            }
            countUses(chip);
            for (int net = 0; net < chip.nets; net++) {
                for (int pin = 0; pin < chip.pins(net); pin++) {
                    joinGate(chip.kinds[net], net, pin);
                    joinSource(chip.source(net, pin), net, pin);
                }
            }
            size = 0;
            for (int net = 0; net < chip.nets; net++) {
                for (int pin = NONE; pin < chip.pins(net); pin++) {
                    enter(faultOf(net, pin, 0));
                    enter(faultOf(net, pin, 1));
                }
            }
        }

        /** Outputs count as pins do: a net with a pin and one use in all is then no output. */
        private void countUses(Chip chip) {
            for (int net = 0; net < MOST_NETS; net++) {
                uses[net] = 0;
            }
            for (int net = 0; net < chip.nets; net++) {
                for (int pin = 0; pin < chip.pins(net); pin++) {
                    uses[chip.source(net, pin)]++;
                }
            }
            for (int number = 0; number < chip.outputs; number++) {
                uses[chip.outputNets[number]]++;
            }
        }

        private void joinGate(int kind, int net, int pin) {
            switch (kind) {
                case AND:
                    joinLines(net, pin, 0, net, NONE, 0);
                    break;
                case OR:
                    joinLines(net, pin, 1, net, NONE, 1);
                    break;
                case NOT_AND:
                    joinLines(net, pin, 0, net, NONE, 1);
                    break;
                case NOT_OR:
                    joinLines(net, pin, 1, net, NONE, 0);
                    break;
                case NOT:
                    joinLines(net, pin, 0, net, NONE, 1);
                    joinLines(net, pin, 1, net, NONE, 0);
                    break;
                case SAME:
                    joinLines(net, pin, 0, net, NONE, 0);
                    joinLines(net, pin, 1, net, NONE, 1);
                    break;
                default:
                    break;
            }
        }

        private void joinSource(int source, int net, int pin) {
            if (uses[source] == 1) {
                joinLines(source, NONE, 0, net, pin, 0);
                joinLines(source, NONE, 1, net, pin, 1);
            }
        }

        private void joinLines(int net, int pin, int v, int otherNet, int otherPin, int otherV) {
            int one = root(faultOf(net, pin, v));
            int other = root(faultOf(otherNet, otherPin, otherV));
            parents[Math.max(one, other)] = Math.min(one, other);
        }

        private int root(int fault) {
            int at = fault;
            for (int step = 0; step < MOST_FAULTS && parents[at] != at; step++) {
                at = parents[at];
            }
            return at;
        }

        /** Faults enter in their order, so that a class has its number before its other faults enter. */
        private void enter(int fault) {
            int first = root(fault);
            if (first == fault) {
                numbers[fault] = size;
                firsts[size] = fault;
                members[size] = 0;
                size++;
            }
            int k = numbers[first];
            numbers[fault] = k;
            members[k]++;
        }
    }

    /**
     * Which assignments show a fault: those in which its net (a pin's gate's) is another one with it,
     * and in which some output would be another one if that net were.
     */
    private static final class Sight {
        private final Chip chip;
        private final long[] seen = new long[MOST_WORDS * MOST_NETS];
        private final boolean[] ready = new boolean[MOST_NETS];
        private final long[] changed = new long[MOST_NETS];

        Sight(Chip chip) {
            this.chip = chip;
        }

        void forget() {
            for (int net = 0; net < MOST_NETS; net++) {
                ready[net] = false;
            }
        }

        int least(int fault) {
            for (int word = 0; word < chip.words(); word++) {
                long showing = showing(fault, word);
                if (showing != 0L) {
                    return word * BITS_OF_WORD + lowestBit(showing);
                }
            }
            return NONE;
        }

        int howMany(int fault) {
            int many = 0;
            for (int word = 0; word < chip.words(); word++) {
                many += Long.bitCount(showing(fault, word));
            }
            return many;
        }

        boolean isSeen(int fault, int known) {
            return bitOf(showing(fault, known / BITS_OF_WORD), known) == 1;
        }

        private long showing(int fault, int word) {
            int net = netOf(fault);
            if (!ready[net]) {
                prepare(net);
            }
            long other = faultyWord(fault, word) ^ chip.wordOf(net, word);
            return other & seen[word * MOST_NETS + net] & chip.mask();
        }

        private long faultyWord(int fault, int word) {
            int net = netOf(fault);
            int pin = pinOf(fault);
            long stuck = allOf(stuckOf(fault));
            if (pin == NONE) {
                return stuck;
            }
            long a = pin == 0 ? stuck : chip.wordOf(chip.source(net, 0), word);
            long b = pin == 1 ? stuck : chip.wordOf(chip.source(net, 1), word);
            return gateWord(chip.kinds[net], a, b);
        }

        private void prepare(int net) {
            for (int word = 0; word < chip.words(); word++) {
                seen[word * MOST_NETS + net] = effectOfChange(net, word);
            }
            ready[net] = true;
        }

        private long effectOfChange(int net, int word) {
            System.arraycopy(chip.values, word * MOST_NETS, changed, 0, MOST_NETS);
            changed[net] = ~changed[net];
            for (int later = net + 1; later < chip.nets; later++) {
                int kind = chip.kinds[later];
                if (kind != INPUT) {
                    long a = changed[chip.source(later, 0)];
                    long b = changed[chip.source(later, 1)];
                    changed[later] = gateWord(kind, a, b);
                }
            }
            long effect = 0L;
            for (int number = 0; number < chip.outputs; number++) {
                int output = chip.outputNets[number];
                effect |= changed[output] ^ chip.wordOf(output, word);
            }
            return effect;
        }
    }

    /** What was found since the chip changed or reset(), and the tests of the latest run. */
    private static final class Progress {
        final boolean[] found = new boolean[MOST_FAULTS];
        final int[] tests = new int[MOST_FAULTS];
        int foundCount;
        int testCount;

        void forgetFound() {
            for (int k = 0; k < MOST_FAULTS; k++) {
                found[k] = false;
            }
            foundCount = 0;
        }

        boolean hasRoom() {
            return testCount < MOST_FAULTS;
        }

        void addTest(int assignment) {
            tests[testCount] = assignment;
            testCount++;
        }

        /** The i-th class that is not found; NONE if there are not so many. */
        int missing(int i, int size) {
            int before = 0;
            for (int k = 0; k < size; k++) {
                if (!found[k]) {
                    if (before == i) {
                        return k;
                    }
                    before++;
                }
            }
            return NONE;
        }
    }
}
