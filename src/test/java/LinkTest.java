/** Promises 18 to 24: the link and the clock. */
public final class LinkTest {

    public static void main(String[] args) {
        Check.that("frames are delivered in order", LinkTest::framesAreDeliveredInOrder);
        Check.that("frames are lost in order", LinkTest::framesAreLostInOrder);
        Check.that("deadline ends calls", LinkTest::deadlineEndsCalls);
        Check.that("deadline of a parent cancels calls below", LinkTest::deadlineOfAParentCancelsCallsBelow);
        Check.that("deadline closes tasks", LinkTest::deadlineClosesTasks);
        Check.that("requests are repeated", LinkTest::requestsAreRepeated);
        Check.that("forty calls pass", LinkTest::fortyCallsPass);
        Check.end();
    }

    private static void framesAreDeliveredInOrder() {
        Gate x = new Gate();
        x.open(0, 2, 50, -1);
        x.open(0, 3, 50, -1);
        Check.due("first frame", 0, x.frame(0, 0));
        Check.due("second frame", 1, x.frame(0, 1));
        Check.due("deliver(0)", 0, x.deliver(0));
        Check.due("frames", 1, x.frames(0));
        Check.due("first frame afterwards", 1, x.frame(0, 0));
        Check.due("deliver(0) again", 1, x.deliver(0));
        x.work(1);
        x.work(0);
        Check.due("deliver(1)", 1, x.deliver(1));
        Check.due("deliver(1) again", 0, x.deliver(1));
        Check.due("value 1", 9, x.value(1));
        Check.due("value 0", 4, x.value(0));
    }

    private static void framesAreLostInOrder() {
        Gate x = new Gate();
        x.open(0, 2, 50, -1);
        x.open(0, 3, 50, -1);
        Check.due("lose(0)", 0, x.lose(0));
        Check.due("task of a lost request", 0, x.task(0));
        Check.due("frames", 1, x.frames(0));
        Check.due("deliver(0)", 1, x.deliver(0));
        x.work(1);
        Check.due("lose(1)", 1, x.lose(1));
        Check.due("frames(1)", 0, x.frames(1));
        Check.due("outcome without its answer", -1, x.outcome(1));
    }

    private static void deadlineEndsCalls() {
        Gate x = new Gate();
        x.open(0, 1, 5, -1);
        x.open(0, 1, 6, -1);
        x.open(0, 1, 7, -1);
        Check.due("pass(4)", 0, x.pass(4));
        Check.due("outcome before the deadline", -1, x.outcome(0));
        Check.due("pass(1)", 1, x.pass(1));
        Check.due("outcome at the deadline", 2, x.outcome(0));
        Check.due("pass(3)", 2, x.pass(3));
        Check.due("outcome 1", 2, x.outcome(1));
        Check.due("outcome 2", 2, x.outcome(2));
        Check.due("no cancellations", 3, x.frames(0));
        Check.due("no tokens taken", 100, x.tokens());
        Check.stateRefused("value", () -> x.value(0));
        Check.stateRefused("cancel", () -> x.cancel(0));
    }

    private static void deadlineOfAParentCancelsCallsBelow() {
        Gate x = new Gate();
        x.open(0, 1, 5, -1);
        x.open(0, 1, 5, -1);
        x.open(0, 1, 50, 0);
        x.open(0, 1, 50, 2);
        x.open(0, 1, 50, 1);
        Check.due("pass(5)", 5, x.pass(5));
        int[] outcomes = {2, 2, 1, 1, 1};
        for (int i = 0; i < 5; i++) {
            Check.due("outcome " + i, outcomes[i], x.outcome(i));
        }
        Check.due("frames", 8, x.frames(0));
        Check.due("first cancellation", 102, x.frame(0, 5));
        Check.due("second cancellation", 103, x.frame(0, 6));
        Check.due("third cancellation", 104, x.frame(0, 7));
    }

    private static void deadlineClosesTasks() {
        Gate x = new Gate();
        x.open(3, 9, 5, -1);
        x.open(3, 9, 6, -1);
        x.open(3, 0, 5, -1);
        x.open(3, 9, 5, -1);
        for (int i = 0; i < 4; i++) {
            x.deliver(0);
        }
        x.work(0);
        x.work(2);
        x.cancel(3);
        x.pass(4);
        Check.due("task before the deadline", 1, x.task(0));
        x.pass(1);
        Check.due("task at the deadline", 3, x.task(0));
        Check.due("its credits", 1, x.credits(0));
        Check.due("task with a later deadline", 1, x.task(1));
        Check.due("answered task at the deadline", 2, x.task(2));
        Check.due("task of a cancelled call at the deadline", 3, x.task(3));
        Check.stateRefused("work for a closed task", () -> x.work(0));
        Check.due("work for the later one", 1, x.work(1));
    }

    private static void requestsAreRepeated() {
        Gate x = new Gate();
        x.pass(2);
        x.open(0, 1, 500, -1);
        x.pass(7);
        Check.due("attempts after 7 ticks", 1, x.attempts(0));
        x.pass(1);
        Check.due("attempts after 8 ticks", 2, x.attempts(0));
        Check.due("tokens after 8 ticks", 90, x.tokens());
        Check.due("frames after 8 ticks", 2, x.frames(0));
        Check.due("repeated request", 0, x.frame(0, 1));
        x.pass(7);
        Check.due("attempts after 15 ticks", 2, x.attempts(0));
        x.pass(1);
        Check.due("attempts after 16 ticks", 3, x.attempts(0));
        x.pass(8);
        Check.due("attempts after 24 ticks", 4, x.attempts(0));
        Check.due("tokens after 24 ticks", 70, x.tokens());
        x.pass(100);
        Check.due("attempts are never more than 4", 4, x.attempts(0));
        Check.due("tokens at the end", 70, x.tokens());
        Check.due("frames at the end", 4, x.frames(0));
    }

    private static void fortyCallsPass() {
        Gate x = new Gate();
        for (int i = 0; i < 40; i++) {
            x.open(0, 1, 9, -1);
            x.deliver(0);
        }
        Check.due("pass(8)", 0, x.pass(8));
        Check.due("repeats of forty calls", 10, x.frames(0));
        Check.due("tokens", 0, x.tokens());
        Check.due("pass(1)", 40, x.pass(1));
        Check.due("last outcome", 2, x.outcome(39));
        Check.due("last task", 3, x.task(39));
    }
}
