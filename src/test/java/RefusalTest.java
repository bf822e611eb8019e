import java.util.ArrayList;
import java.util.List;
import java.util.function.Consumer;
import java.util.function.Supplier;

/**
 * "A call that throws changes nothing": in objects of many states each call that is to throw is made, and every
 * answer after it held against that of a twin that never saw the call.
 */
public final class RefusalTest {
    private static final Class<IndexOutOfBoundsException> INDEX = IndexOutOfBoundsException.class;
    private static final Class<IllegalStateException> STATE = IllegalStateException.class;
    private static final Class<IllegalArgumentException> ARGUMENT = IllegalArgumentException.class;
    private static final int NONE = FaultSearch.NONE;
    private static final int MIN = Integer.MIN_VALUE;
    private static final int MAX = Integer.MAX_VALUE;

    private static final Check CHECK = new Check("RefusalTest");

    private record Refusal(String name, Class<? extends RuntimeException> due, Consumer<FaultSearch> call) {
    }

    private final String title;
    private final Supplier<FaultSearch> maker;
    private final List<Refusal> refusals = new ArrayList<>();

    private RefusalTest(String title, Supplier<FaultSearch> maker) {
        this.title = title;
        this.maker = maker;
    }

    private void add(String name, Class<? extends RuntimeException> due, Consumer<FaultSearch> call) {
        refusals.add(new Refusal(title + ": " + name, due, call));
    }

    /** The numbers next to those there are, on both sides, and the outermost ones. */
    private static int[] beside(int many) {
        return new int[] {MIN, -2, -1, many, many + 1, MAX};
    }

    private void addWrongNumbers(FaultSearch like) {
        for (int net : beside(like.count(0))) {
            add("value(" + net + ", 0)", INDEX, x -> x.value(net, 0));
            add("output(" + net + ")", INDEX, x -> x.output(net));
            add("gate(0, " + net + ", 0)", INDEX, x -> x.gate(0, net, 0));
            add("gate(5, " + net + ", 0)", INDEX, x -> x.gate(5, net, 0));
            add("gate(7, " + net + ", 0)", INDEX, x -> x.gate(7, net, 0));
            add("gate(4, 0, " + net + ")", INDEX, x -> x.gate(4, 0, net));
            add("gate(-1, 0, " + net + ")", INDEX, x -> x.gate(-1, 0, net));
            add("classOf(" + net + ", NONE, 0)", INDEX, x -> x.classOf(net, NONE, 0));
            add("slow(" + net + ", 0, 0)", INDEX, x -> x.slow(net, 0, 0));
        }
        for (int k : beside(like.faults())) {
            add("fault(" + k + ", 0)", INDEX, x -> x.fault(k, 0));
            add("test(" + k + ")", INDEX, x -> x.test(k));
            add("shows(0, " + k + ")", INDEX, x -> x.shows(0, k));
            add("shown(" + k + ")", INDEX, x -> x.shown(k));
        }
        for (int i : beside(like.count(4))) {
            add("pattern(" + i + ")", INDEX, x -> x.pattern(i));
        }
        for (int what : beside(6)) {
            add("count(" + what + ")", INDEX, x -> x.count(what));
        }
        for (int i : new int[] {MIN, -2, -1}) {
            add("left(" + i + ")", INDEX, x -> x.left(i));
        }
    }

    /** Of an object that has nets: numbers are good but for one. */
    private void addWrongParts(FaultSearch like) {
        int last = like.count(0) - 1;
        for (int v : beside(2)) {
            add("classOf(0, NONE, " + v + ")", INDEX, x -> x.classOf(0, NONE, v));
            add("slow(" + last + ", " + v + ", 0)", INDEX, x -> x.slow(last, v, 0));
            add("slow(" + last + ", 0, " + v + ")", INDEX, x -> x.slow(last, 0, v));
        }
        for (int pin : new int[] {MIN, -2, 2, 3, MAX}) {
            add("classOf(" + last + ", " + pin + ", 0)", INDEX, x -> x.classOf(last, pin, 0));
        }
        add("classOf(0, 0, 0), of an input", INDEX, x -> x.classOf(0, 0, 0));
        for (int what : beside(4)) {
            add("fault(0, " + what + ")", INDEX, x -> x.fault(0, what));
        }
        boolean noRoom = like.count(0) == 100;
        for (int kind : beside(7)) {
            add("gate(" + kind + ", 0, 0)", noRoom ? STATE : ARGUMENT, x -> x.gate(kind, 0, 0));
        }
    }

    private void addNoRoom(FaultSearch like) {
        boolean full = like.count(0) == 100;
        if (full) {
            add("gate(0, 0, 0), no room", STATE, x -> x.gate(0, 0, 0));
            add("gate(6, 99, 100), no room", STATE, x -> x.gate(6, 99, 100));
        }
        if (full || like.count(1) == 10) {
            add("input(), no room", STATE, FaultSearch::input);
        }
        if (like.count(2) == 12) {
            add("output(0), no room", STATE, x -> x.output(0));
            add("output(the last), no room", STATE, x -> x.output(like.count(0) - 1));
        }
    }

    private static void same(String when, List<String> got, List<String> due) {
        CHECK.is(when + ": rows", got.size(), due.size());
        for (int i = 0; i < Math.min(got.size(), due.size()); i++) {
            CHECK.same(when, got.get(i), due.get(i));
        }
    }

    /** The calls behind the refused one are made at once: no other call stands between that might mend it. */
    private void compare() {
        FaultSearch like = maker.get();
        addWrongNumbers(like);
        if (like.count(0) > 0) {
            addWrongParts(like);
        }
        addNoRoom(like);
        List<String> asked = Answers.asked(maker.get());
        List<String> goingOn = Answers.goingOn(maker.get());
        for (Refusal refusal : refusals) {
            same(refusal.name + " and asked", Answers.asked(refusing(refusal)), asked);
            same(refusal.name + " and on", Answers.goingOn(refusing(refusal)), goingOn);
        }
        FaultSearch all = maker.get();
        for (Refusal refusal : refusals.subList(0, Math.min(refusals.size(), 100))) {
            CHECK.refuses(refusal.name, refusal.due, () -> refusal.call.accept(all));
        }
        same(title + ": many refused and asked", Answers.asked(all), asked);
    }

    private FaultSearch refusing(Refusal refusal) {
        FaultSearch x = maker.get();
        CHECK.refuses(refusal.name, refusal.due, () -> refusal.call.accept(x));
        return x;
    }

    private static FaultSearch ran(FaultSearch x) {
        x.run();
        return x;
    }

    private static FaultSearch simulated(FaultSearch x) {
        x.simulate(6);
        return x;
    }

    private static FaultSearch reset(FaultSearch x) {
        x.reset();
        return x;
    }

    private static FaultSearch cleared(FaultSearch x) {
        x.clear();
        return x;
    }

    private static FaultSearch withOutput(FaultSearch x) {
        x.output(x.count(0) - 1);
        return x;
    }

    private static FaultSearch withTwelveOutputs(FaultSearch x) {
        int last = x.count(0) - 1;
        for (int number = x.count(2); number < 12; number++) {
            x.output(last);
        }
        return x;
    }

    public static void main(String[] args) {
        CHECK.about("A call that throws changes nothing");
        new RefusalTest("nothing", FaultSearch::new).compare();
        new RefusalTest("cleared", () -> cleared(ran(Chips.chooser()))).compare();
        new RefusalTest("an input", () -> Chips.withInputs(1)).compare();
        new RefusalTest("an AND", () -> Chips.oneGate(0)).compare();
        new RefusalTest("chooser", Chips::chooser).compare();
        new RefusalTest("chooser, half found", () -> simulated(Chips.chooser())).compare();
        new RefusalTest("chooser, run", () -> ran(Chips.chooser())).compare();
        new RefusalTest("chooser, run and reset", () -> reset(ran(Chips.chooser()))).compare();
        new RefusalTest("chooser, run, half found", () -> simulated(reset(ran(Chips.chooser())))).compare();
        new RefusalTest("ten inputs, run", () -> ran(withOutput(Chips.copies(10, 12)))).compare();
        new RefusalTest("twelve outputs, run", () -> ran(withTwelveOutputs(Chips.oneGate(2)))).compare();
        new RefusalTest("100 nets, nine inputs, run", () -> ran(withTwelveOutputs(Chips.copies(9, 100)))).compare();
        new RefusalTest("full", Chips::full).compare();
        new RefusalTest("full, run", () -> ran(Chips.full())).compare();
        CHECK.end();
    }
}
