/**
 * Which exception goes first, for the calls that can throw more than one: each is asked with all
 * combinations of right and wrong arguments, on a fresh object each time.
 */
public final class OrderTest {

    private static final int LEAST = Integer.MIN_VALUE;
    private static final int MOST = Integer.MAX_VALUE;

    private static final Class<?> INDEX = IndexOutOfBoundsException.class;
    private static final Class<?> ARGUMENT = IllegalArgumentException.class;
    private static final Class<?> STATE = IllegalStateException.class;

    private static final int[] DIRECTIONS = {LEAST, -1, 0, 1, 2, MOST};
    private static final int[] METHODS = {LEAST, -1, 0, 1, 2, 3, 4, MOST};
    private static final int[] ARGUMENTS = {LEAST, -1001, -1000, 0, 1000, 1001, MOST};

    public static void main(String[] args) {
        Check.that("2: open of ten calls", () -> opens(10, Scenes::mixed));
        Check.that("2: open of forty calls", () -> opens(40, OrderTest::fortyAfterMixed));
        Check.that("4: grant", OrderTest::grants);
        Check.that("17: local", OrderTest::locals);
        Check.that("18: deliver", () -> firstFrames("deliver", Gate::deliver));
        Check.that("19: lose", () -> firstFrames("lose", Gate::lose));
        Check.that("21: frame", () -> places("frame", Gate::frame, new int[] {205}, new int[] {409, 409, 405, 307}));
        Check.that("22: frameValue",
            () -> places("frameValue", Gate::frameValue, new int[] {7}, new int[] {9, 8, 5, 7}));
        Check.end();
    }

    /** The ten calls of the mixed scene, of which 0 to 4 have ended, and thirty open ones. */
    private static void fortyAfterMixed(Gate x) {
        Scenes.mixed(x);
        for (int call = 10; call < 40; call++) {
            x.open(0, 1, 1000, -1);
        }
    }

    private static void asked(String what, Class<?> refusal, int due, Check.Asked call) {
        if (refusal == null) {
            Check.due(what, due, call.answer());
        } else {
            Check.refused(what, refusal, call);
        }
    }

    private static boolean within(int least, int number, int most) {
        return least <= number && number <= most;
    }

    private static void opens(int calls, Twins.Scene scene) {
        for (int parent : new int[] {LEAST, -2, -1, 0, 4, 5, calls - 1, calls, calls + 1, MOST}) {
            for (int method : METHODS) {
                for (int argument : ARGUMENTS) {
                    for (int timeout : new int[] {LEAST, -1, 0, 1, 1000, 1001, MOST}) {
                        Gate x = new Gate();
                        scene.play(x);
                        boolean inRange = within(0, method, 3) && within(-1000, argument, 1000)
                            && within(1, timeout, 1000);
                        Class<?> refusal = !within(-1, parent, calls - 1) ? INDEX
                            : !inRange ? ARGUMENT
                            : within(0, parent, 4) || calls == 40 ? STATE : null;
                        asked("open(" + method + ", " + argument + ", " + timeout + ", " + parent + ")",
                            refusal, calls, () -> x.open(method, argument, timeout, parent));
                    }
                }
            }
        }
    }

    private static void grants() {
        for (int call : new int[] {LEAST, -1, 0, 1, 2, 3, 4, 5, 6, 7, 8, 9, 10, 11, MOST}) {
            for (int number : new int[] {LEAST, -1, 0, 1, 10, 11, MOST}) {
                Gate x = new Gate();
                Scenes.mixed(x);
                Class<?> refusal = !within(0, call, 9) ? INDEX
                    : !within(1, number, 10) ? ARGUMENT
                    : call != 5 && call != 9 ? STATE : null;
                asked("grant(" + call + ", " + number + ")", refusal, 0, () -> x.grant(call, number));
            }
        }
    }

    private static void locals() {
        for (int method : METHODS) {
            for (int argument : ARGUMENTS) {
                Gate x = new Gate();
                Class<?> refusal = !within(0, method, 3) || !within(-1000, argument, 1000) ? ARGUMENT
                    : method == 2 ? STATE : null;
                int due = method == 0 ? argument * argument : method == 1 ? argument : Math.max(0, argument);
                asked("local(" + method + ", " + argument + ")", refusal, due, () -> x.local(method, argument));
            }
        }
    }

    /** A call of the face that takes a direction. */
    private interface OfDirection {
        int ask(Gate x, int direction);
    }

    private static void firstFrames(String name, OfDirection question) {
        for (int direction : DIRECTIONS) {
            Class<?> outOfRange = within(0, direction, 1) ? null : ARGUMENT;
            Gate held = new Gate();
            Scenes.mixed(held);
            asked(name + "(" + direction + ")", outOfRange, direction == 0 ? 5 : 9,
                () -> question.ask(held, direction));
            Gate empty = new Gate();
            asked(name + "(" + direction + ") of an empty link", outOfRange == null ? STATE : outOfRange, 0,
                () -> question.ask(empty, direction));
        }
    }

    /** A call of the face that takes a direction and a place. */
    private interface OfPlace {
        int ask(Gate x, int direction, int place);
    }

    private static void places(String name, OfPlace question, int[] toServer, int[] toCaller) {
        Gate held = new Gate();
        Scenes.mixed(held);
        Gate empty = new Gate();
        for (int direction : DIRECTIONS) {
            int[] due = direction == 0 ? toServer : toCaller;
            for (int place : new int[] {LEAST, -1, 0, 1, 2, 3, 4, 39, 40, MOST}) {
                String what = name + "(" + direction + ", " + place + ")";
                boolean stands = within(0, place, due.length - 1);
                Class<?> outOfRange = within(0, direction, 1) ? null : ARGUMENT;
                Class<?> refusal = outOfRange != null ? outOfRange : stands ? null : INDEX;
                asked(what, refusal, stands ? due[place] : 0, () -> question.ask(held, direction, place));
                asked(what + " of an empty link", outOfRange != null ? outOfRange : INDEX, 0,
                    () -> question.ask(empty, direction, place));
            }
        }
    }
}
