import java.util.function.Consumer;
import java.util.function.Supplier;

/** Counts the answers that are not due; each test class has one and ends with finish(). */
final class Check {
    interface Call {
        long answer();
    }

    private static final int MOST_SHOWN = 20;

    private final String test;
    private int asked = 0;
    private int wrong = 0;

    Check(String test) {
        this.test = test;
    }

    void is(String what, long got, long due) {
        same(what, Long.toString(got), Long.toString(due));
    }

    void yes(String what, boolean got) {
        same(what, Boolean.toString(got), "true");
    }

    void no(String what, boolean got) {
        same(what, Boolean.toString(got), "false");
    }

    void same(String what, String got, String due) {
        asked++;
        if (!got.equals(due)) {
            wrong++;
            if (wrong <= MOST_SHOWN) {
                System.out.println(test + ": " + what + " answered " + got + ", due is " + due);
            }
        }
    }

    /** The answer of a call as a text; of one that throws, the plain name of what it throws. */
    static String answerOf(Call call) {
        try {
            return Long.toString(call.answer());
        } catch (RuntimeException e) {
            return e.getClass().getName();
        }
    }

    void refusesIndex(String what, Supplier<Greenwave> make, Consumer<Greenwave> call) {
        refuses(what, make, call, IndexOutOfBoundsException.class);
    }

    void refusesArgument(String what, Supplier<Greenwave> make, Consumer<Greenwave> call) {
        refuses(what, make, call, IllegalArgumentException.class);
    }

    void refusesState(String what, Supplier<Greenwave> make, Consumer<Greenwave> call) {
        refuses(what, make, call, IllegalStateException.class);
    }

    /** The call must throw exactly this kind, and leave the object as one without the call. */
    private void refuses(String what, Supplier<Greenwave> make, Consumer<Greenwave> call, Class<?> kind) {
        Greenwave called = make.get();
        Greenwave untouched = make.get();
        String got = answerOf(() -> {
            call.accept(called);
            return 0;
        });
        same(what, got, kind.getName());
        same(what + " changes something", stateOf(called), stateOf(untouched));
    }

    /** All that can be asked, and what some more seconds and a call for setting up then do. */
    static String stateOf(Greenwave corridor) {
        StringBuilder text = new StringBuilder();
        addAnswers(text, corridor);
        text.append(answerOf(() -> corridor.setOffset(1, 3))).append(' ');
        for (int movement = 0; movement < 4; movement++) {
            int m = movement;
            text.append(answerOf(() -> corridor.setFlow(0, m, 1000))).append(' ');
            text.append(answerOf(() -> corridor.setConflict(0, m, 3 - m, 4))).append(' ');
        }
        text.append(answerOf(() -> corridor.callBus(0, 1))).append(' ');
        text.append(answerOf(() -> corridor.run(45))).append(' ');
        addAnswers(text, corridor);
        return text.toString();
    }

    private static void addAnswers(StringBuilder text, Greenwave corridor) {
        add(text, corridor::junctions);
        add(text, corridor::clock);
        add(text, corridor::come);
        add(text, corridor::through);
        add(text, () -> corridor.band(true));
        add(text, () -> corridor.band(false));
        for (int junction = 0; junction < corridor.junctions(); junction++) {
            int k = junction;
            add(text, () -> corridor.hasPlan(k) ? 1 : 0);
            add(text, () -> corridor.offset(k));
            add(text, () -> corridor.queue(k));
            add(text, () -> corridor.held(k));
            add(text, () -> corridor.phaseNow(k));
            for (int phase = 0; phase < 4; phase++) {
                int p = phase;
                add(text, () -> corridor.green(k, p));
                add(text, () -> corridor.clearing(k, p));
            }
        }
    }

    private static void add(StringBuilder text, Call call) {
        text.append(answerOf(call)).append(' ');
    }

    void finish() {
        System.out.println(test + ": " + asked + " answers, " + wrong + " of them not as due");
        if (wrong != 0) {
            System.exit(1);
        }
    }
}
