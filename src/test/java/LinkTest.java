/** Promises 18 to 24: the link and the clock. */
public final class LinkTest {

    public static void main(String[] args) {
        framesAreDeliveredInOrder();
        framesAreLostInOrder();
        directionsAreRefused();
        placesAreRefused();
        fullLinkToTheServerLosesFrames();
        fullLinkToTheCallerLosesFrames();
        ringOfFramesGoesRound();
        passCountsTicks();
        passRefuses();
        deadlineEndsCalls();
        deadlineOfAParentCancelsCallsBelow();
        deadlineOfAChildLeavesTheParent();
        deadlineClosesTasks();
        requestsAreRepeated();
        requestsAreNotRepeatedAtTheDeadline();
        receivedItemsStopRepeats();
        tokensLimitRepeats();
        tenTokensAreEnough();
        lostRepeatsCount();
        fortyCallsPass();
        Check.end();
    }

    private static void framesAreDeliveredInOrder() {
        Callgate x = new Callgate();
        x.open(0, 2, 50, -1);
        x.open(0, 3, 50, -1);
        Check.due("first frame", 0, x.frame(0, 0));
        Check.due("second frame", 1, x.frame(0, 1));
        Check.due("deliver(0)", 0, x.deliver(0));
        Check.due("frames", 1, x.frames(0));
        Check.due("first frame afterwards", 1, x.frame(0, 0));
        Check.due("deliver(0) again", 1, x.deliver(0));
        x.work(1);
        x.work(0);
        Check.due("deliver(1)", 1, x.deliver(1));
        Check.due("deliver(1) again", 0, x.deliver(1));
        Check.due("value 1", 9, x.value(1));
        Check.due("value 0", 4, x.value(0));
    }

    private static void framesAreLostInOrder() {
        Callgate x = new Callgate();
        x.open(0, 2, 50, -1);
        x.open(0, 3, 50, -1);
        Check.due("lose(0)", 0, x.lose(0));
        Check.due("task of a lost request", 0, x.task(0));
        Check.due("frames", 1, x.frames(0));
        Check.due("deliver(0)", 1, x.deliver(0));
        x.work(1);
        Check.due("lose(1)", 1, x.lose(1));
        Check.due("frames(1)", 0, x.frames(1));
        Check.due("outcome without its answer", -1, x.outcome(1));
    }

    private static void directionsAreRefused() {
        Callgate x = new Callgate();
        int[] wrong = {-1, 2, Integer.MIN_VALUE, Integer.MAX_VALUE};
        for (int direction : wrong) {
            Check.argumentRefused("deliver(" + direction + ")", () -> x.deliver(direction));
            Check.argumentRefused("lose(" + direction + ")", () -> x.lose(direction));
            Check.argumentRefused("frames(" + direction + ")", () -> x.frames(direction));
            Check.argumentRefused("frame(" + direction + ", -1)", () -> x.frame(direction, -1));
            Check.argumentRefused("frameValue(" + direction + ", -1)", () -> x.frameValue(direction, -1));
        }
        for (int direction = 0; direction < 2; direction++) {
            int empty = direction;
            Check.stateRefused("deliver from empty " + empty, () -> x.deliver(empty));
            Check.stateRefused("lose from empty " + empty, () -> x.lose(empty));
        }
        x.open(0, 2, 50, -1);
        Check.stateRefused("deliver(1) while 0 holds a frame", () -> x.deliver(1));
        Check.stateRefused("lose(1) while 0 holds a frame", () -> x.lose(1));
        Check.due("frames(0)", 1, x.frames(0));
    }

    private static void placesAreRefused() {
        Callgate x = new Callgate();
        Check.indexRefused("frame(0, 0) of none", () -> x.frame(0, 0));
        Check.indexRefused("frameValue(1, 0) of none", () -> x.frameValue(1, 0));
        x.open(0, 2, 50, -1);
        int[] wrong = {-1, 1, 40, Integer.MIN_VALUE, Integer.MAX_VALUE};
        for (int place : wrong) {
            Check.indexRefused("frame(0, " + place + ")", () -> x.frame(0, place));
            Check.indexRefused("frameValue(0, " + place + ")", () -> x.frameValue(0, place));
        }
        Check.indexRefused("frame(1, 0)", () -> x.frame(1, 0));
    }

    private static void fullLinkToTheServerLosesFrames() {
        Callgate x = new Callgate();
        x.open(3, 5, 50, -1);
        for (int i = 0; i < 39; i++) {
            x.grant(0, 1 + i % 10);
        }
        Check.due("frames", 40, x.frames(0));
        x.grant(0, 10);
        x.open(0, 1, 50, -1);
        x.cancel(0);
        Check.due("frames of a full direction", 40, x.frames(0));
        Check.due("last frame", 200, x.frame(0, 39));
        Check.due("its number", 9, x.frameValue(0, 39));
        Check.due("attempts with a lost request", 1, x.attempts(1));
        Check.due("outcome with a lost cancellation", 1, x.outcome(0));
        x.deliver(0);
        x.open(0, 1, 50, -1);
        Check.due("frames", 40, x.frames(0));
        Check.due("last frame", 2, x.frame(0, 39));
    }

    private static void fullLinkToTheCallerLosesFrames() {
        Callgate x = new Callgate();
        x.open(3, 41, 50, -1);
        for (int i = 0; i < 4; i++) {
            x.grant(0, 10);
        }
        for (int i = 0; i < 5; i++) {
            x.deliver(0);
        }
        for (int i = 0; i < 41; i++) {
            x.work(0);
        }
        Check.due("frames", 40, x.frames(1));
        Check.due("last item", 2, x.frameValue(1, 39));
        Check.due("a lost item takes a credit", 1, x.credits(0));
        x.deliver(1);
        Check.due("answer", 2, x.work(0));
        Check.due("frame of the answer", 300, x.frame(1, 39));
        for (int i = 0; i < 39; i++) {
            x.deliver(1);
        }
        Check.due("received", 40, x.received(0));
        Check.due("sum", 41 * 42 / 2 - 1, x.sum(0));
        x.deliver(1);
        Check.due("outcome", 4, x.outcome(0));
    }

    private static void ringOfFramesGoesRound() {
        Callgate x = new Callgate();
        x.open(3, 5, 500, -1);
        x.lose(0);
        for (int i = 0; i < 95; i++) {
            x.grant(0, 1 + i % 10);
            x.grant(0, 1 + i % 7);
            Check.due("number at place 0", 1 + i % 10, x.frameValue(0, 0));
            Check.due("number at place 1", 1 + i % 7, x.frameValue(0, 1));
            x.lose(0);
            x.deliver(0);
        }
        Check.due("frames", 0, x.frames(0));
    }

    private static void passCountsTicks() {
        Callgate x = new Callgate();
        Check.due("pass(1)", 0, x.pass(1));
        Check.due("now", 1, x.now());
        Check.due("pass(200)", 0, x.pass(200));
        Check.due("now", 201, x.now());
    }

    private static void passRefuses() {
        Callgate x = new Callgate();
        x.open(0, 1, 1, -1);
        Check.argumentRefused("pass(0)", () -> x.pass(0));
        Check.argumentRefused("pass(-1)", () -> x.pass(-1));
        Check.argumentRefused("pass(201)", () -> x.pass(201));
        Check.argumentRefused("pass of the greatest number", () -> x.pass(Integer.MAX_VALUE));
        Check.due("now", 0, x.now());
        Check.due("outcome", -1, x.outcome(0));
    }

    private static void deadlineEndsCalls() {
        Callgate x = new Callgate();
        x.open(0, 1, 5, -1);
        x.open(0, 1, 6, -1);
        x.open(0, 1, 7, -1);
        Check.due("pass(4)", 0, x.pass(4));
        Check.due("outcome before the deadline", -1, x.outcome(0));
        Check.due("pass(1)", 1, x.pass(1));
        Check.due("outcome at the deadline", 2, x.outcome(0));
        Check.due("pass(3)", 2, x.pass(3));
        Check.due("outcome 1", 2, x.outcome(1));
        Check.due("outcome 2", 2, x.outcome(2));
        Check.due("no cancellations", 3, x.frames(0));
        Check.due("no tokens taken", 100, x.tokens());
        Check.stateRefused("value", () -> x.value(0));
        Check.stateRefused("cancel", () -> x.cancel(0));
    }

    private static void deadlineOfAParentCancelsCallsBelow() {
        Callgate x = new Callgate();
        x.open(0, 1, 5, -1);
        x.open(0, 1, 5, -1);
        x.open(0, 1, 50, 0);
        x.open(0, 1, 50, 2);
        x.open(0, 1, 50, 1);
        Check.due("pass(5)", 5, x.pass(5));
        int[] outcomes = {2, 2, 1, 1, 1};
        for (int i = 0; i < 5; i++) {
            Check.due("outcome " + i, outcomes[i], x.outcome(i));
        }
        Check.due("frames", 8, x.frames(0));
        Check.due("first cancellation", 102, x.frame(0, 5));
        Check.due("second cancellation", 103, x.frame(0, 6));
        Check.due("third cancellation", 104, x.frame(0, 7));
    }

    private static void deadlineOfAChildLeavesTheParent() {
        Callgate x = new Callgate();
        x.open(0, 1, 6, -1);
        x.open(0, 1, 5, 0);
        x.open(0, 1, 50, 1);
        Check.due("pass(5)", 2, x.pass(5));
        Check.due("outcome of the parent", -1, x.outcome(0));
        Check.due("outcome of the child", 2, x.outcome(1));
        Check.due("outcome of the grandchild", 1, x.outcome(2));
        Check.due("frames", 4, x.frames(0));
        Check.due("cancellation", 102, x.frame(0, 3));
    }

    private static void deadlineClosesTasks() {
        Callgate x = new Callgate();
        x.open(3, 9, 5, -1);
        x.open(3, 9, 6, -1);
        x.open(3, 0, 5, -1);
        x.open(3, 9, 5, -1);
        for (int i = 0; i < 4; i++) {
            x.deliver(0);
        }
        x.work(0);
        x.work(2);
        x.cancel(3);
        x.pass(4);
        Check.due("task before the deadline", 1, x.task(0));
        x.pass(1);
        Check.due("task at the deadline", 3, x.task(0));
        Check.due("its credits", 1, x.credits(0));
        Check.due("task with a later deadline", 1, x.task(1));
        Check.due("answered task at the deadline", 2, x.task(2));
        Check.due("task of a cancelled call at the deadline", 3, x.task(3));
        Check.stateRefused("work for a closed task", () -> x.work(0));
        Check.due("work for the later one", 1, x.work(1));
    }

    private static void requestsAreRepeated() {
        Callgate x = new Callgate();
        x.pass(2);
        x.open(0, 1, 500, -1);
        x.pass(7);
        Check.due("attempts after 7 ticks", 1, x.attempts(0));
        x.pass(1);
        Check.due("attempts after 8 ticks", 2, x.attempts(0));
        Check.due("tokens after 8 ticks", 90, x.tokens());
        Check.due("frames after 8 ticks", 2, x.frames(0));
        Check.due("repeated request", 0, x.frame(0, 1));
        x.pass(7);
        Check.due("attempts after 15 ticks", 2, x.attempts(0));
        x.pass(1);
        Check.due("attempts after 16 ticks", 3, x.attempts(0));
        x.pass(8);
        Check.due("attempts after 24 ticks", 4, x.attempts(0));
        Check.due("tokens after 24 ticks", 70, x.tokens());
        x.pass(100);
        Check.due("attempts are never more than 4", 4, x.attempts(0));
        Check.due("tokens at the end", 70, x.tokens());
        Check.due("frames at the end", 4, x.frames(0));
    }

    private static void requestsAreNotRepeatedAtTheDeadline() {
        Callgate x = new Callgate();
        x.open(0, 1, 8, -1);
        x.open(0, 1, 50, -1);
        x.cancel(1);
        Check.due("pass(8)", 1, x.pass(8));
        Check.due("attempts", 1, x.attempts(0));
        Check.due("attempts of a cancelled call", 1, x.attempts(1));
        Check.due("tokens", 100, x.tokens());
    }

    private static void receivedItemsStopRepeats() {
        Callgate x = new Callgate();
        x.open(3, 5, 100, -1);
        x.open(3, 5, 100, -1);
        x.deliver(0);
        x.deliver(0);
        x.work(0);
        x.work(1);
        x.deliver(1);
        x.pass(8);
        Check.due("attempts with an item", 1, x.attempts(0));
        Check.due("attempts without an item", 2, x.attempts(1));
        Check.due("tokens", 90, x.tokens());
    }

    private static void tokensLimitRepeats() {
        Callgate x = new Callgate();
        for (int i = 0; i < 12; i++) {
            x.open(0, 1, 500, -1);
        }
        x.pass(8);
        Check.due("tokens", 0, x.tokens());
        Check.due("attempts of call 9", 2, x.attempts(9));
        Check.due("attempts of call 10", 1, x.attempts(10));
        Check.due("attempts of call 11", 1, x.attempts(11));
        Check.due("frames", 22, x.frames(0));
        Check.due("last frame", 9, x.frame(0, 21));
        for (int i = 0; i < 9; i++) {
            x.deliver(0);
            x.work(i);
            x.deliver(1);
        }
        Check.due("tokens after 9 answers", 9, x.tokens());
        x.pass(1);
        Check.due("9 tokens are too few", 1, x.attempts(10));
    }

    private static void tenTokensAreEnough() {
        Callgate x = new Callgate();
        for (int i = 0; i < 12; i++) {
            x.open(0, 1, 500, -1);
        }
        x.pass(8);
        for (int i = 0; i < 10; i++) {
            x.deliver(0);
            x.work(i);
            x.deliver(1);
        }
        Check.due("tokens after 10 answers", 10, x.tokens());
        x.pass(1);
        Check.due("attempts of call 10", 2, x.attempts(10));
        Check.due("attempts of call 11", 1, x.attempts(11));
        Check.due("tokens", 0, x.tokens());
    }

    private static void lostRepeatsCount() {
        Callgate x = new Callgate();
        x.open(3, 1, 100, -1);
        for (int i = 0; i < 39; i++) {
            x.grant(0, 1);
        }
        x.pass(8);
        Check.due("frames", 40, x.frames(0));
        Check.due("attempts", 2, x.attempts(0));
        Check.due("tokens", 90, x.tokens());
    }

    private static void fortyCallsPass() {
        Callgate x = new Callgate();
        for (int i = 0; i < 40; i++) {
            x.open(0, 1, 9, -1);
            x.deliver(0);
        }
        Check.due("pass(8)", 0, x.pass(8));
        Check.due("repeats of forty calls", 10, x.frames(0));
        Check.due("tokens", 0, x.tokens());
        Check.due("pass(1)", 40, x.pass(1));
        Check.due("last outcome", 2, x.outcome(39));
        Check.due("last task", 3, x.task(39));
    }
}
