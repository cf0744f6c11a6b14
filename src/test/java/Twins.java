import java.util.ArrayList;
import java.util.List;

/**
 * Two objects that were made alike, of which one alone is asked something that must change nothing:
 * all that the face tells, and all that comes of going on, must be the same with both.
 */
final class Twins {

    /** What was done with an object before. */
    interface Scene {
        void play(Gate x);
    }

    /** What one of the two is asked. */
    interface Question {
        int ask(Gate x);
    }

    private Twins() {
    }

    static void indexRefused(String what, Scene scene, Question question) {
        refused(what, IndexOutOfBoundsException.class, scene, question);
    }

    static void argumentRefused(String what, Scene scene, Question question) {
        refused(what, IllegalArgumentException.class, scene, question);
    }

    static void stateRefused(String what, Scene scene, Question question) {
        refused(what, IllegalStateException.class, scene, question);
    }

    private static void refused(String what, Class<?> want, Scene scene, Question question) {
        Gate asked = made(scene);
        Check.refused(what, want, () -> question.ask(asked));
        changesNothing(what, scene, question);
    }

    /** Looks at the state, and with a second pair at what comes afterwards, for both may not fit in 512 calls. */
    static void changesNothing(String what, Scene scene, Question question) {
        Gate asked = made(scene);
        answer(() -> question.ask(asked));
        same(what + ": the state", told(made(scene)), told(asked));

        Gate goingOn = made(scene);
        answer(() -> question.ask(goingOn));
        int calls = goingOn.left();
        same(what + ": afterwards", sequel(made(scene), calls), sequel(goingOn, calls));
    }

    private static Gate made(Scene scene) {
        Gate x = new Gate();
        scene.play(x);
        return x;
    }

    private static void same(String what, List<String> want, List<String> got) {
        for (int i = 0; i < Math.max(want.size(), got.size()); i++) {
            String due = i < want.size() ? want.get(i) : "nothing";
            String seen = i < got.size() ? got.get(i) : "nothing";
            if (!due.equals(seen)) {
                Check.fail(what + " has " + seen + ", and without the call it has " + due);
                return;
            }
        }
    }

    static String answer(Check.Asked call) {
        try {
            return Integer.toString(call.answer());
        } catch (RuntimeException e) {
            return e.getClass().getName();
        }
    }

    /** All that the face tells of an object. */
    static List<String> told(Gate x) {
        List<String> told = new ArrayList<>();
        int calls = x.calls();
        told.add("calls " + calls + " now " + x.now() + " tokens " + x.tokens() + " total " + x.total());
        for (int i = 0; i < calls; i++) {
            int call = i;
            told.add("call " + call + " outcome " + x.outcome(call) + " value " + answer(() -> x.value(call))
                + " deadline " + x.deadline(call) + " attempts " + x.attempts(call)
                + " received " + x.received(call) + " sum " + x.sum(call)
                + " task " + x.task(call) + " credits " + x.credits(call));
        }
        for (int direction = 0; direction < 2; direction++) {
            int frames = x.frames(direction);
            told.add("frames(" + direction + ") " + frames);
            for (int place = 0; place < frames; place++) {
                told.add("frame(" + direction + ", " + place + ") " + x.frame(direction, place)
                    + " with " + x.frameValue(direction, place));
            }
        }
        return told;
    }

    /** Goes on for that many calls; so what the face does not tell at once comes to light as well. */
    private static List<String> sequel(Gate x, int calls) {
        List<String> told = new ArrayList<>();
        int end = x.left() - calls;
        int known = Math.max(1, x.calls());
        for (int i = 0; x.left() - end >= 16; i++) {
            int worked = i % known;
            told.add("round " + i + " work " + answer(() -> x.work(worked))
                + " task " + answer(() -> x.task(worked)) + " deliver(0) " + answer(() -> x.deliver(0)));
            String came = answer(() -> x.deliver(1));
            told.add("round " + i + " deliver(1) " + came + " tokens " + x.tokens());
            if (came.length() < 3) {
                int call = Integer.parseInt(came);
                told.add("round " + i + " outcome " + x.outcome(call) + " value " + answer(() -> x.value(call))
                    + " sum " + x.sum(call) + " received " + x.received(call));
            }
            if (i % 3 == 2) {
                told.add("round " + i + " pass " + x.pass(1) + " now " + x.now()
                    + " frames " + x.frames(0) + " and " + x.frames(1));
            }
            if (i == 5) {
                told.add("round " + i + " open " + answer(() -> x.open(1, 1, 9, -1))
                    + " cancel " + answer(() -> x.cancel(0)));
            }
        }
        return told;
    }
}
