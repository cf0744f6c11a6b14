/** What tests do with an object before they come to their point. */
final class Scenes {

    static final int ANSWERED = 0;
    static final int CANCELLED = 1;
    static final int DEADLINE_REACHED = 2;
    static final int FAILED = 3;
    static final int BROKEN = 4;

    private Scenes() {
    }

    /** Opens a call and brings it to its end with the outcome. The link must be empty, and is empty again. */
    static int ended(Gate x, int outcome) {
        switch (outcome) {
            case ANSWERED:
                return answered(x, 0, 3);
            case FAILED:
                return answered(x, 2, 3);
            case BROKEN:
                return broken(x);
            default:
                return endedAlone(x, 0, outcome);
        }
    }

    /** The same with a call of method 3, which cannot end as failed. */
    static int endedStream(Gate x, int outcome) {
        switch (outcome) {
            case ANSWERED:
                return answered(x, 3, 0);
            case BROKEN:
                return broken(x);
            default:
                return endedAlone(x, 3, outcome);
        }
    }

    /** Without a word from the server: as cancelled, or as deadline reached. */
    private static int endedAlone(Gate x, int method, int outcome) {
        int call = x.open(method, 3, outcome == CANCELLED ? 50 : 1, -1);
        x.lose(0);
        if (outcome == CANCELLED) {
            x.cancel(call);
            x.lose(0);
        } else {
            x.pass(1);
        }
        return call;
    }

    private static int broken(Gate x) {
        int call = x.open(3, 1, 50, -1);
        x.deliver(0);
        x.work(call);
        x.work(call);
        x.lose(1);
        x.deliver(1);
        return call;
    }

    /** Opens a call of which the next step is its answer, and has it answered. */
    static int answered(Gate x, int method, int argument) {
        int call = x.open(method, argument, 1000, -1);
        x.deliver(0);
        x.work(call);
        x.deliver(1);
        return call;
    }

    /** Opens a call and makes a task of it. The link to the server must be empty. */
    static int running(Gate x, int method, int argument, int timeout) {
        int call = x.open(method, argument, timeout, -1);
        x.deliver(0);
        return call;
    }

    /** Opens a call and lets its task answer. The answer stays on the link. */
    static int worked(Gate x, int method, int argument) {
        int call = running(x, method, argument, 1000);
        x.work(call);
        return call;
    }

    /** Opens a stream with a task and that many credits, 2 at least. The link to the server must be empty. */
    static int streamWithCredits(Gate x, int argument, int credits) {
        int call = running(x, 3, argument, 1000);
        for (int left = credits - 2; left > 0; left -= 10) {
            x.grant(call, Math.min(left, 10));
            x.deliver(0);
        }
        return call;
    }

    /** Sends credits for a stream until the direction to the server holds that many frames. */
    static void fillToServer(Gate x, int stream, int frames) {
        for (int held = x.frames(0); held < frames; held++) {
            x.grant(stream, 1);
        }
    }

    /** Opens a stream that has sent that many items, and has one credit more. */
    static int itemsToCaller(Gate x, int items) {
        int call = streamWithCredits(x, 1000, Math.max(2, items + 1));
        for (int i = 0; i < items; i++) {
            x.work(call);
        }
        return call;
    }

    static void lostAll(Gate x, int direction) {
        for (int frames = x.frames(direction); frames > 0; frames--) {
            x.lose(direction);
        }
    }

    static void deliveredAll(Gate x, int direction) {
        for (int frames = x.frames(direction); frames > 0; frames--) {
            x.deliver(direction);
        }
    }

    static void fortyCalls(Gate x) {
        for (int i = 0; i < 40; i++) {
            x.open(0, i, 500, -1);
        }
    }

    /**
     * Ten calls, 0 to 4 with the outcomes of their numbers, and of the open ones 5 is a stream with an
     * item received and one on its way, 6 a child that the server does not know, 7 one whose answer is on
     * its way, 8 one that fails when it is worked, and 9 a stream below 6 that has used up its credits.
     */
    static void mixed(Gate x) {
        for (int outcome = ANSWERED; outcome <= BROKEN; outcome++) {
            ended(x, outcome);
        }
        running(x, 3, 6, 200);
        x.work(5);
        x.deliver(1);
        x.open(0, 4, 100, 5);
        x.lose(0);
        running(x, 1, 7, 150);
        running(x, 2, 7, 150);
        x.pass(8);
        lostAll(x, 0);
        x.open(3, 9, 60, 6);
        x.deliver(0);
        x.work(9);
        x.work(9);
        x.work(5);
        x.work(7);
        x.grant(5, 7);
        x.pass(6);
    }
}
