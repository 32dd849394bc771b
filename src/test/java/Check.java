import java.util.function.Consumer;
import java.util.function.Supplier;

/** Counts the answers that are not due; each test class has one and ends with finish(). */
final class Check {
    interface Call {
        long answer();
    }

    private static final int MOST_SHOWN = 20;

    private final String test;
    private int asked = 0;
    private int wrong = 0;

    Check(String test) {
        this.test = test;
    }

    void is(String what, long got, long due) {
        same(what, Long.toString(got), Long.toString(due));
    }

    void yes(String what, boolean got) {
        same(what, Boolean.toString(got), "true");
    }

    void no(String what, boolean got) {
        same(what, Boolean.toString(got), "false");
    }

    void same(String what, String got, String due) {
        asked++;
        if (!got.equals(due)) {
            wrong++;
            if (wrong <= MOST_SHOWN) {
                System.out.println(test + ": " + what + " answered " + got + ", due is " + due);
            }
        }
    }

    /** The answer of a call as a text; of one that throws, the plain name of what it throws. */
    static String answerOf(Call call) {
        try {
            return Long.toString(call.answer());
        } catch (RuntimeException e) {
            return e.getClass().getName();
        }
    }

    void refusesIndex(String what, Supplier<Greenwave> make, Consumer<Greenwave> call) {
        refuses(what, make, call, IndexOutOfBoundsException.class);
    }

    void refusesArgument(String what, Supplier<Greenwave> make, Consumer<Greenwave> call) {
        refuses(what, make, call, IllegalArgumentException.class);
    }

    void refusesState(String what, Supplier<Greenwave> make, Consumer<Greenwave> call) {
        refuses(what, make, call, IllegalStateException.class);
    }

    /** The call must throw exactly this kind, and leave the object as one without the call. */
    private void refuses(String what, Supplier<Greenwave> make, Consumer<Greenwave> call, Class<?> kind) {
        Greenwave called = make.get();
        Greenwave untouched = make.get();
        same(what, answerOf(called, call), kind.getName());
        same(what + " changes something", stateOf(called), stateOf(untouched));
    }

    void takes(String what, Supplier<Greenwave> make, Consumer<Greenwave> call) {
        same(what, answerOf(make.get(), call), "0");
    }

    /** The call must throw what its throws clause names first of what applies, or nothing. */
    void throwsFirst(String what, Supplier<Greenwave> make, Consumer<Greenwave> call,
            boolean isIndexWrong, boolean isArgumentWrong, boolean isStateWrong) {
        if (isIndexWrong) {
            refusesIndex(what, make, call);
        } else if (isArgumentWrong) {
            refusesArgument(what, make, call);
        } else if (isStateWrong) {
            refusesState(what, make, call);
        } else {
            takes(what, make, call);
        }
    }

    private static String answerOf(Greenwave corridor, Consumer<Greenwave> call) {
        return answerOf(() -> {
            call.accept(corridor);
            return 0;
        });
    }

    /** All that can be asked, what was set, and what a bus and more seconds then do; at most 270 calls. */
    static String stateOf(Greenwave corridor) {
        StringBuilder text = new StringBuilder();
        addAnswers(text, corridor);
        for (int junction = 0; junction < corridor.junctions(); junction++) {
            addLights(text, corridor, junction);
        }
        for (int junction = 0; junction < corridor.junctions(); junction++) {
            addSettings(text, corridor, junction);
        }
        int last = corridor.junctions() - 1;
        // A last junction that is never green fills the links, so that their rooms show.
        add(text, () -> corridor.setPhases(last, 4, 0, 0, 0));
        add(text, () -> corridor.callBus(0, 1));
        add(text, () -> corridor.run(45));
        addAnswers(text, corridor);
        add(text, () -> corridor.run(600));
        addAnswers(text, corridor);
        return text.toString();
    }

    private static void addAnswers(StringBuilder text, Greenwave corridor) {
        add(text, corridor::junctions);
        add(text, corridor::clock);
        add(text, corridor::come);
        add(text, corridor::through);
        add(text, () -> corridor.band(true));
        add(text, () -> corridor.band(false));
        for (int junction = 0; junction < corridor.junctions(); junction++) {
            int k = junction;
            add(text, () -> corridor.hasPlan(k) ? 1 : 0);
            add(text, () -> corridor.offset(k));
            add(text, () -> corridor.queue(k));
            add(text, () -> corridor.held(k));
            add(text, () -> corridor.phaseNow(k));
            add(text, () -> corridor.breaches(k));
        }
    }

    private static void addLights(StringBuilder text, Greenwave corridor, int k) {
        for (int phase = 0; phase < 4; phase++) {
            int p = phase;
            add(text, () -> corridor.green(k, p));
            add(text, () -> corridor.clearing(k, p));
        }
        for (int movement = 0; movement < 4; movement++) {
            int m = movement;
            add(text, () -> corridor.isGreen(k, m, 0) ? 1 : 0);
            add(text, () -> corridor.isGreen(k, m, 13) ? 1 : 0);
            add(text, () -> corridor.isGreen(k, m, 26) ? 1 : 0);
        }
    }

    /** What was set, told by setting it to something else; where that is refused, the refusal. */
    private static void addSettings(StringBuilder text, Greenwave corridor, int k) {
        add(text, () -> corridor.setOffset(k, 3));
        for (int movement = 0; movement < 4; movement++) {
            int m = movement;
            add(text, () -> corridor.setFlow(k, m, 1750));
            for (int other = 0; other < m; other++) {
                int o = other;
                add(text, () -> corridor.setConflict(k, m, o, Greenwave.NONE));
            }
        }
    }

    private static void add(StringBuilder text, Call call) {
        text.append(answerOf(call)).append(' ');
    }

    void finish() {
        System.out.println(test + ": " + asked + " answers, " + wrong + " of them not as due");
        if (wrong != 0) {
            System.exit(1);
        }
    }
}
