import java.util.ArrayList;
import java.util.List;

/** What an object answers, a row for each call, so that two objects can be held against each other. */
final class Answers {
    /** Full chips are looked at from both ends: an object has 512 calls, and two for each fault would be too many. */
    private static final int MOST_LOOKED_AT = 12;
    private static final int[] ASSIGNMENTS = {0, 1, 6, -1};

    private final FaultSearch x;
    private final List<String> rows = new ArrayList<>();

    private Answers(FaultSearch x) {
        this.x = x;
    }

    /** By calls that change nothing. */
    static List<String> asked(FaultSearch x) {
        Answers answers = new Answers(x);
        answers.ask();
        return answers.rows;
    }

    /** By calls that find classes, bring tests, and bring nets and outputs as long as there is room. */
    static List<String> goingOn(FaultSearch x) {
        Answers answers = new Answers(x);
        answers.goOn();
        return answers.rows;
    }

    private void row(String call, Object answer) {
        rows.add(call + " = " + answer);
    }

    private void ask() {
        counts();
        for (int net : bothEnds(x.count(0))) {
            askNet(net);
        }
        for (int k : bothEnds(x.faults())) {
            askClass(k);
        }
        for (int i : bothEnds(x.count(4))) {
            row("pattern " + i, x.pattern(i));
        }
        for (int i = 0; i <= MOST_LOOKED_AT; i++) {
            row("left " + i, x.left(i));
        }
    }

    private void counts() {
        row("faults", x.faults());
        for (int what = 0; what < 6; what++) {
            row("count " + what, x.count(what));
        }
    }

    private static int[] bothEnds(int many) {
        int size = Math.min(many, MOST_LOOKED_AT);
        int[] numbers = new int[size];
        for (int i = 0; i < size; i++) {
            numbers[i] = i < size / 2 ? i : many - size + i;
        }
        return numbers;
    }

    private void askNet(int net) {
        for (int assignment : ASSIGNMENTS) {
            row("value " + net + " in " + assignment, x.value(net, assignment));
        }
        for (int v = 0; v < 2; v++) {
            row("class of net " + net + " at " + v, x.classOf(net, FaultSearch.NONE, v));
            row("slow " + net + " to " + v + ", before", x.slow(net, v, 0));
            row("slow " + net + " to " + v + ", shows", x.slow(net, v, 1));
        }
    }

    private void askClass(int k) {
        for (int what = 0; what < 4; what++) {
            row("fault " + k + " what " + what, x.fault(k, what));
        }
        row("test " + k, x.test(k));
        row("shown " + k, x.shown(k));
        row("shows 6 " + k, x.shows(6, k));
    }

    private void goOn() {
        row("simulate 6", x.simulate(6));
        row("left 0", x.left(0));
        row("run", x.run());
        counts();
        x.reset();
        row("run behind reset", x.run());
        counts();
        grow();
        counts();
        x.clear();
        counts();
        row("input of the cleared one", x.input());
    }

    private void grow() {
        int nets = x.count(0);
        if (nets < 100 && x.count(1) < 10) {
            row("input", x.input());
        }
        nets = x.count(0);
        if (nets > 0 && nets < 100) {
            row("gate", x.gate(3, nets - 1, 0));
        }
        if (nets > 0 && x.count(2) < 12) {
            row("output", x.output(nets - 1));
        }
    }
}
