/**
 * The face of one Callgate, with its calls counted: what an object answers after its 512th call is
 * free, so a test that asks for more than that is stopped.
 */
final class Gate {

    static final int MOST_CALLS = 512;

    private final Callgate inner = new Callgate();
    private int used;

    /** How many calls can still be asked for. */
    int left() {
        return MOST_CALLS - used;
    }

    private Callgate next() {
        if (used >= MOST_CALLS) {
            throw new AssertionError("a test asks an object for more than 512 calls");
        }
        used++;
        return inner;
    }

    int open(int method, int argument, int timeout, int parent) {
        return next().open(method, argument, timeout, parent);
    }

    int cancel(int call) {
        return next().cancel(call);
    }

    /** Answers 0, so that it can be asked like the others. */
    int grant(int call, int number) {
        next().grant(call, number);
        return 0;
    }

    int calls() {
        return next().calls();
    }

    int outcome(int call) {
        return next().outcome(call);
    }

    int value(int call) {
        return next().value(call);
    }

    int deadline(int call) {
        return next().deadline(call);
    }

    int attempts(int call) {
        return next().attempts(call);
    }

    int received(int call) {
        return next().received(call);
    }

    int sum(int call) {
        return next().sum(call);
    }

    int tokens() {
        return next().tokens();
    }

    int work(int call) {
        return next().work(call);
    }

    int task(int call) {
        return next().task(call);
    }

    int credits(int call) {
        return next().credits(call);
    }

    int total() {
        return next().total();
    }

    int local(int method, int argument) {
        return next().local(method, argument);
    }

    int deliver(int direction) {
        return next().deliver(direction);
    }

    int lose(int direction) {
        return next().lose(direction);
    }

    int frames(int direction) {
        return next().frames(direction);
    }

    int frame(int direction, int place) {
        return next().frame(direction, place);
    }

    int frameValue(int direction, int place) {
        return next().frameValue(direction, place);
    }

    int pass(int ticks) {
        return next().pass(ticks);
    }

    int now() {
        return next().now();
    }
}
