import java.util.ArrayList;
import java.util.Arrays;
import java.util.Collections;
import java.util.List;
import java.util.Random;

/**
 * Promises 1 to 24 in long mixed runs: Callgate and the model do the same calls, and at the end of a run,
 * which comes early or late, as much as 512 calls leave room for is asked of both. A call that throws
 * does nothing to the model, so it is seen to do nothing to Callgate either.
 * The seeds are fixed, so every run of this test is the same.
 */
public final class RandomRunsTest {

    private static final int RUNS = 3000;
    private static final int[] ODD = {-2, -1, 0, 1, 2, 39, 40, 41, Integer.MIN_VALUE, Integer.MAX_VALUE};

    private static final String[] NAMES = {
        "open", "cancel", "grant", "calls", "outcome", "value", "deadline", "attempts", "received", "sum",
        "tokens", "work", "task", "credits", "total", "local", "deliver", "lose", "frames", "frame",
        "frameValue", "pass", "now"};

    public static void main(String[] args) {
        for (int temper = 0; temper < 4; temper++) {
            int first = temper;
            Check.that("mixed runs of the temper " + temper, () -> runsAgree(first));
        }
        Check.end();
    }

    private static void runsAgree(int temper) {
        for (int run = temper; run < RUNS; run += 4) {
            if (!runAgrees(run)) {
                Check.fail("run " + run + " does not agree with the model");
                return;
            }
        }
    }

    private static boolean runAgrees(int run) {
        Random random = new Random(run);
        Gate gate = new Gate();
        Model model = new Model();
        int calls = 1 + random.nextInt(Gate.MOST_CALLS);
        for (int i = 0; i < calls; i++) {
            if (!agree(gate, model, next(random, model, run % 4))) {
                return false;
            }
        }
        return statesAgree(gate, model, random);
    }

    /** A next call; the four tempers of a run make full links, long streams, and many deadlines likely. */
    private static int[] next(Random random, Model model, int temper) {
        int dice = random.nextInt(100);
        int call = call(random, model.call(new int[] {3}));
        if (dice < 20) {
            return new int[] {0, odd(random, random.nextInt(4)), odd(random, argument(random, temper)),
                odd(random, timeout(random, temper)), random.nextInt(3) == 0 ? call : -1};
        }
        if (dice < 24) {
            return new int[] {1, call};
        }
        if (dice < 32) {
            return new int[] {2, call, odd(random, 1 + random.nextInt(10))};
        }
        if (dice < 54) {
            return new int[] {11, call};
        }
        if (dice < 58) {
            return new int[] {15, odd(random, random.nextInt(4)), odd(random, argument(random, temper))};
        }
        if (dice < (temper == 1 ? 66 : 86)) {
            return new int[] {16, odd(random, random.nextInt(2))};
        }
        if (dice < (temper == 1 ? 68 : 91)) {
            return new int[] {17, odd(random, random.nextInt(2))};
        }
        if (dice < 94) {
            return new int[] {random.nextInt(NAMES.length), call, random.nextInt(12), odd(random, 5), -1};
        }
        return new int[] {21, odd(random, 1 + random.nextInt(temper == 3 ? 60 : 5))};
    }

    private static int call(Random random, int calls) {
        return odd(random, calls == 0 ? 0 : random.nextInt(calls));
    }

    private static int argument(Random random, int temper) {
        return temper == 2 ? random.nextInt(2001) - 1000 : random.nextInt(9) - 2;
    }

    private static int timeout(Random random, int temper) {
        return temper == 0 ? 1 + random.nextInt(1000) : 1 + random.nextInt(40);
    }

    /** The usual number, and now and then an odd one. */
    private static int odd(Random random, int usual) {
        return random.nextInt(25) == 0 ? ODD[random.nextInt(ODD.length)] : usual;
    }

    private static boolean statesAgree(Gate gate, Model model, Random random) {
        List<int[]> questions = new ArrayList<>();
        for (int question : new int[] {3, 10, 14, 22}) {
            questions.add(new int[] {question});
        }
        for (int call = model.call(new int[] {3}) - 1; call >= 0; call--) {
            for (int question : new int[] {4, 5, 6, 7, 8, 9, 12, 13}) {
                questions.add(new int[] {question, call});
            }
        }
        for (int direction = 0; direction < 2; direction++) {
            questions.add(new int[] {18, direction});
            for (int place = model.call(new int[] {18, direction}) - 1; place >= 0; place--) {
                questions.add(new int[] {19, direction, place});
                questions.add(new int[] {20, direction, place});
            }
        }
        Collections.shuffle(questions, random);
        for (int i = 0; i < questions.size() && gate.left() > 0; i++) {
            if (!agree(gate, model, questions.get(i))) {
                return false;
            }
        }
        return true;
    }

    private static boolean agree(Gate gate, Model model, int[] row) {
        String due;
        try {
            due = Integer.toString(model.call(row));
        } catch (Model.Refused e) {
            due = exceptionFor(e.why).getName();
        }
        String got = Twins.answer(() -> ask(gate, row));
        if (!due.equals(got)) {
            Check.fail("the call " + (Gate.MOST_CALLS - gate.left()) + ": " + NAMES[row[0]]
                + Arrays.toString(Arrays.copyOfRange(row, 1, row.length)) + " answered " + got + ", due is " + due);
        }
        return due.equals(got);
    }

    private static Class<?> exceptionFor(Model.Refusal why) {
        switch (why) {
            case INDEX: return IndexOutOfBoundsException.class;
            case ARGUMENT: return IllegalArgumentException.class;
            default: return IllegalStateException.class;
        }
    }

    private static int ask(Gate x, int[] row) {
        switch (row[0]) {
            case 0: return x.open(row[1], row[2], row[3], row[4]);
            case 1: return x.cancel(row[1]);
            case 2: return x.grant(row[1], row[2]);
            case 3: return x.calls();
            case 4: return x.outcome(row[1]);
            case 5: return x.value(row[1]);
            case 6: return x.deadline(row[1]);
            case 7: return x.attempts(row[1]);
            case 8: return x.received(row[1]);
            case 9: return x.sum(row[1]);
            case 10: return x.tokens();
            case 11: return x.work(row[1]);
            case 12: return x.task(row[1]);
            case 13: return x.credits(row[1]);
            case 14: return x.total();
            case 15: return x.local(row[1], row[2]);
            case 16: return x.deliver(row[1]);
            case 17: return x.lose(row[1]);
            case 18: return x.frames(row[1]);
            case 19: return x.frame(row[1], row[2]);
            case 20: return x.frameValue(row[1], row[2]);
            case 21: return x.pass(row[1]);
            default: return x.now();
        }
    }
}
