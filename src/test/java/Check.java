/** Counts answers that are not as due and prints them. */
final class Check {
    private static final int MOST_PRINTED = 50;

    private final String title;
    private String sentence = "";
    private int done;
    private int wrong;

    Check(String title) {
        this.title = title;
    }

    /** Names the words of the document that the answers from here on are due by. */
    void about(String words) {
        sentence = " [" + words + "]";
    }

    void is(String call, long got, long want) {
        same(call, Long.toString(got), Long.toString(want));
    }

    void is(String call, boolean got, boolean want) {
        same(call, Boolean.toString(got), Boolean.toString(want));
    }

    void same(String call, String got, String want) {
        done++;
        if (!got.equals(want)) {
            wrong++;
            if (wrong <= MOST_PRINTED) {
                System.out.println(title + sentence + ": " + call + " answered " + got + ", due is " + want);
            }
        }
    }

    /** The class must be the very one: a subclass is what the machine throws by itself. */
    void refuses(String call, Class<? extends RuntimeException> due, Runnable run) {
        String got = "nothing thrown";
        try {
            run.run();
        } catch (RuntimeException e) {
            got = e.getClass().getName();
        }
        same(call, got, due.getName());
    }

    void end() {
        System.out.println(title + ": " + done + " answers, " + wrong + " of them wrong");
        if (wrong != 0 || done == 0) {
            System.exit(1);
        }
    }
}
