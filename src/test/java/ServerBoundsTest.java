/** 'Terms', at the server: its edges; and promises 13 to 15 where nothing is refused. */
public final class ServerBoundsTest {

    public static void main(String[] args) {
        requests();
        cancellations();
        credits();
        steps();
        Check.end();
    }

    // ---- a request comes

    private static void requests() {
        Check.that("a request of an unknown call makes a running task with 2 credits", ServerBoundsTest::newTask);
        Check.that("also if the call has ended at the caller", ServerBoundsTest::newTaskOfEndedCall);
        Check.that("but if the deadline is reached, the request does nothing", ServerBoundsTest::requestAtTheDeadline);
        Check.that("the deadline that counts is the one from above", ServerBoundsTest::requestAtTheParentsDeadline);
        Check.that("a request sent again makes the task if the first was lost", ServerBoundsTest::laterRequest);
        Check.that("a request sent again at the deadline does nothing", ServerBoundsTest::laterRequestAtTheDeadline);
        Check.that("a request for an answered task: the same result and value", ServerBoundsTest::sameAnswerAgain);
        Check.that("also when its call has ended and its deadline is reached", ServerBoundsTest::sameAnswerLate);
        Check.that("each request for an answered task sends one answer", ServerBoundsTest::answerForEachRequest);
        Check.that("a request for a running task does nothing", ServerBoundsTest::requestForRunning);
        Check.that("a request for a task that its deadline closed does nothing", ServerBoundsTest::requestForOverdue);
    }

    private static void taskIs(Gate x, int call, int state, int credits) {
        Check.due("task(" + call + ")", state, x.task(call));
        Check.due("credits(" + call + ")", credits, x.credits(call));
    }

    private static void newTask() {
        Gate x = new Gate();
        for (int method = 0; method <= 3; method++) {
            x.open(method, 5, 50, -1);
            taskIs(x, method, 0, 0);
            Check.due("deliver(0)", method, x.deliver(0));
            taskIs(x, method, 1, 2);
        }
        Check.due("frames to the caller", 0, x.frames(1));
    }

    private static void newTaskOfEndedCall() {
        Gate x = new Gate();
        x.open(1, 5, 50, -1);
        x.open(1, 7, 50, 0);
        x.cancel(0);
        x.deliver(0);
        x.deliver(0);
        taskIs(x, 0, 1, 2);
        taskIs(x, 1, 1, 2);
        Check.due("work for the cancelled call", 2, x.work(0));
        Check.due("work for the call below", 2, x.work(1));
        Check.due("total", 12, x.total());
    }

    private static void requestAtTheDeadline() {
        Gate x = new Gate();
        x.open(0, 1, 4, -1);
        x.open(0, 1, 5, -1);
        x.open(0, 1, 6, -1);
        x.pass(5);
        Scenes.deliveredAll(x, 0);
        taskIs(x, 0, 0, 0);
        taskIs(x, 1, 0, 0);
        taskIs(x, 2, 1, 2);
        Check.stateRefused("work at the deadline", () -> x.work(1));
        Check.due("frames to the caller", 0, x.frames(1));
        Gate shortest = new Gate();
        Scenes.running(shortest, 0, 1, 1);
        taskIs(shortest, 0, 1, 2);
        Gate cancelled = new Gate();
        cancelled.open(0, 1, 5, -1);
        cancelled.cancel(0);
        cancelled.pass(5);
        cancelled.deliver(0);
        taskIs(cancelled, 0, 0, 0);
    }

    private static void requestAtTheParentsDeadline() {
        for (int ticks = 4; ticks <= 5; ticks++) {
            Gate x = new Gate();
            x.open(0, 1, 5, -1);
            x.open(0, 1, 1000, 0);
            x.pass(ticks);
            x.deliver(0);
            x.deliver(0);
            Check.due("task of the child after " + ticks, ticks == 4 ? 1 : 0, x.task(1));
        }
    }

    private static void laterRequest() {
        Gate x = new Gate();
        x.open(3, 5, 9, -1);
        x.lose(0);
        x.pass(8);
        x.deliver(0);
        taskIs(x, 0, 1, 2);
    }

    private static void laterRequestAtTheDeadline() {
        Gate x = new Gate();
        x.open(3, 5, 9, -1);
        x.lose(0);
        x.pass(8);
        x.pass(1);
        Check.due("the request again", 0, x.deliver(0));
        taskIs(x, 0, 0, 0);
    }

    private static void sameAnswerAgain() {
        Gate x = new Gate();
        int[] methods = {1, 2, 0, 3, 1};
        int[] arguments = {5, 5, -9, 0, 100};
        for (int call = 0; call < 5; call++) {
            x.open(methods[call], arguments[call], 50, -1);
        }
        x.pass(8);
        for (int call = 0; call < 5; call++) {
            x.deliver(0);
            x.work(call);
        }
        Check.due("total", 105, x.total());
        Scenes.lostAll(x, 1);
        Scenes.deliveredAll(x, 0);
        Check.due("frames to the caller", 5, x.frames(1));
        int[] values = {5, 0, 81, 0, 105};
        for (int call = 0; call < 5; call++) {
            Check.due("answer again", 300 + call, x.frame(1, call));
            Check.due("its value", values[call], x.frameValue(1, call));
            taskIs(x, call, 2, 2);
        }
        Check.due("total with the requests again", 105, x.total());
        Scenes.deliveredAll(x, 1);
        for (int call = 0; call < 5; call++) {
            Check.due("outcome(" + call + ")", call == 1 ? 3 : 0, x.outcome(call));
        }
        Check.due("value of the first sum", 5, x.value(0));
    }

    private static void sameAnswerLate() {
        for (int ended = 1; ended <= 2; ended++) {
            Gate x = new Gate();
            x.open(1, 5, 12, -1);
            x.pass(8);
            x.deliver(0);
            x.work(0);
            x.lose(1);
            if (ended == 1) {
                x.cancel(0);
            }
            x.pass(10);
            Check.due("outcome", ended, x.outcome(0));
            taskIs(x, 0, 2, 2);
            Check.due("the request again", 0, x.deliver(0));
            Check.due("frames to the caller", 1, x.frames(1));
            Check.due("the answer again", 300, x.frame(1, 0));
            Check.due("its value", 5, x.frameValue(1, 0));
            Check.due("total", 5, x.total());
        }
    }

    private static void answerForEachRequest() {
        Gate x = new Gate();
        x.open(1, 5, 50, -1);
        x.pass(24);
        Check.due("requests", 4, x.frames(0));
        x.deliver(0);
        Check.due("frames without work", 0, x.frames(1));
        x.work(0);
        for (int answers = 1; answers <= 4; answers++) {
            Check.due("answers", answers, x.frames(1));
            Check.due("value of the last", 5, x.frameValue(1, answers - 1));
            if (answers < 4) {
                x.deliver(0);
            }
        }
        Check.due("total", 5, x.total());
    }

    private static void requestForRunning() {
        Gate x = new Gate();
        x.open(3, 5, 50, -1);
        x.open(1, 5, 50, -1);
        x.pass(16);
        x.deliver(0);
        x.deliver(0);
        x.work(0);
        x.deliver(0);
        x.deliver(0);
        taskIs(x, 0, 1, 1);
        taskIs(x, 1, 1, 2);
        x.work(0);
        x.deliver(0);
        taskIs(x, 0, 1, 0);
        Check.due("frames to the caller", 2, x.frames(1));
        Check.due("first item", 5, x.frameValue(1, 0));
        Check.due("second item", 4, x.frameValue(1, 1));
        Check.stateRefused("work without credit", () -> x.work(0));
        Check.due("total", 0, x.total());
    }

    private static void requestForOverdue() {
        Gate x = new Gate();
        x.open(3, 5, 12, -1);
        x.pass(8);
        x.deliver(0);
        x.work(0);
        x.lose(1);
        x.pass(4);
        taskIs(x, 0, 3, 1);
        Check.due("the request again", 0, x.deliver(0));
        taskIs(x, 0, 3, 1);
        Check.due("frames to the caller", 0, x.frames(1));
    }

    // ---- a cancellation comes

    private static void cancellations() {
        Check.that("a cancellation closes a running task, which keeps its credits", ServerBoundsTest::closesRunning);
        Check.that("a cancellation for an unknown call makes a closed task with 0 credits",
            ServerBoundsTest::closesUnknown);
        Check.that("also when the deadline of the call is reached", ServerBoundsTest::closesUnknownAtTheDeadline);
        Check.that("a cancellation for an answered task does nothing", ServerBoundsTest::leavesAnswered);
        Check.that("a cancellation for a closed task does nothing", ServerBoundsTest::leavesClosed);
    }

    private static void closesRunning() {
        for (int steps = 0; steps <= 2; steps++) {
            Gate x = new Gate();
            Scenes.running(x, 3, 5, 50);
            for (int i = 0; i < steps; i++) {
                x.work(0);
            }
            x.cancel(0);
            taskIs(x, 0, 1, 2 - steps);
            x.deliver(0);
            taskIs(x, 0, 3, 2 - steps);
            Check.due("frames to the caller", steps, x.frames(1));
        }
        for (int method = 0; method <= 2; method++) {
            Gate x = new Gate();
            Scenes.running(x, method, 5, 50);
            x.cancel(0);
            x.deliver(0);
            taskIs(x, 0, 3, 2);
            Check.due("total", 0, x.total());
        }
    }

    private static void closesUnknown() {
        for (int method = 0; method <= 3; method++) {
            Gate x = new Gate();
            x.open(method, 5, 50, -1);
            x.lose(0);
            x.cancel(0);
            taskIs(x, 0, 0, 0);
            x.deliver(0);
            taskIs(x, 0, 3, 0);
            Check.due("frames to the caller", 0, x.frames(1));
        }
    }

    private static void closesUnknownAtTheDeadline() {
        for (int ticks = 4; ticks <= 6; ticks++) {
            Gate x = new Gate();
            x.open(0, 5, 5, -1);
            x.lose(0);
            x.cancel(0);
            x.pass(ticks);
            taskIs(x, 0, 0, 0);
            x.deliver(0);
            taskIs(x, 0, 3, 0);
        }
    }

    private static void leavesAnswered() {
        Gate x = new Gate();
        x.open(1, 5, 50, -1);
        x.pass(8);
        x.deliver(0);
        x.work(0);
        x.lose(1);
        x.cancel(0);
        Check.due("the request again", 0, x.deliver(0));
        Check.due("the answer again", 1, x.frames(1));
        Check.due("the cancellation", 0, x.deliver(0));
        taskIs(x, 0, 2, 2);
        Check.due("frames to the caller", 1, x.frames(1));
        Check.due("total", 5, x.total());
    }

    private static void leavesClosed() {
        Gate x = new Gate();
        Scenes.running(x, 3, 5, 5);
        x.work(0);
        x.cancel(0);
        x.pass(5);
        taskIs(x, 0, 3, 1);
        x.deliver(0);
        taskIs(x, 0, 3, 1);
        Check.due("frames to the caller", 1, x.frames(1));
    }

    // ---- a credit comes

    private static void credits() {
        Check.that("a credit adds its number to the credits of a running task", ServerBoundsTest::creditForRunning);
        Check.that("also when the credits are used up", ServerBoundsTest::creditForUsedUp);
        Check.that("also when its call has ended at the caller", ServerBoundsTest::creditOfEndedCall);
        Check.that("a credit for an unknown call does nothing", ServerBoundsTest::creditForUnknown);
        Check.that("a credit for an answered task does nothing", ServerBoundsTest::creditForAnswered);
        Check.that("a credit for a closed task does nothing", ServerBoundsTest::creditForClosed);
        Check.that("15: the credits go as far as a run can grant them", ServerBoundsTest::greatestCredits);
    }

    private static void creditForRunning() {
        Gate x = new Gate();
        Scenes.running(x, 3, 5, 50);
        Scenes.running(x, 3, 5, 50);
        int due = 2;
        for (int number = 1; number <= 10; number++) {
            x.grant(0, number);
            taskIs(x, 0, 1, due);
            x.deliver(0);
            due += number;
            taskIs(x, 0, 1, due);
        }
        taskIs(x, 1, 1, 2);
        Check.due("frames to the caller", 0, x.frames(1));
    }

    private static void creditForUsedUp() {
        Gate x = new Gate();
        Scenes.running(x, 3, 5, 50);
        x.work(0);
        x.work(0);
        taskIs(x, 0, 1, 0);
        x.grant(0, 1);
        x.deliver(0);
        taskIs(x, 0, 1, 1);
        Check.due("work with the new credit", 1, x.work(0));
        taskIs(x, 0, 1, 0);
        Check.due("its item", 3, x.frameValue(1, 2));
    }

    private static void creditOfEndedCall() {
        Gate x = new Gate();
        Scenes.running(x, 3, 5, 50);
        x.grant(0, 4);
        x.cancel(0);
        x.deliver(0);
        taskIs(x, 0, 1, 6);
        x.deliver(0);
        taskIs(x, 0, 3, 6);
    }

    private static void creditForUnknown() {
        Gate x = new Gate();
        x.open(3, 5, 50, -1);
        x.lose(0);
        x.grant(0, 10);
        Check.due("the credit", 0, x.deliver(0));
        taskIs(x, 0, 0, 0);
        x.pass(8);
        x.deliver(0);
        taskIs(x, 0, 1, 2);
        Gate late = new Gate();
        late.open(3, 5, 5, -1);
        late.grant(0, 10);
        late.pass(5);
        Scenes.deliveredAll(late, 0);
        taskIs(late, 0, 0, 0);
    }

    private static void creditForAnswered() {
        Gate x = new Gate();
        Scenes.running(x, 3, 1, 50);
        x.work(0);
        x.work(0);
        taskIs(x, 0, 2, 1);
        x.grant(0, 10);
        x.deliver(0);
        taskIs(x, 0, 2, 1);
        Gate without = new Gate();
        Scenes.worked(without, 3, 0);
        without.grant(0, 1);
        without.deliver(0);
        taskIs(without, 0, 2, 2);
    }

    private static void creditForClosed() {
        Gate x = new Gate();
        Scenes.running(x, 3, 5, 5);
        x.work(0);
        x.grant(0, 10);
        x.pass(5);
        taskIs(x, 0, 3, 1);
        x.deliver(0);
        taskIs(x, 0, 3, 1);
        Check.stateRefused("work", () -> x.work(0));
    }

    private static void greatestCredits() {
        Gate x = new Gate();
        Scenes.running(x, 3, 5, 500);
        for (int i = 0; i < 250; i++) {
            x.grant(0, 10);
            x.deliver(0);
        }
        taskIs(x, 0, 1, 2502);
    }

    // ---- a step of work

    private static void steps() {
        Check.that("a step of the methods 0 to 2 answers, and takes no credit", ServerBoundsTest::stepOfOtherMethods);
        Check.that("an item takes one credit, also the last one", ServerBoundsTest::itemTakesCredit);
        Check.that("the answer of a stream needs no credit", ServerBoundsTest::answerWithoutCredit);
        Check.that("the answer of a stream takes no credit", ServerBoundsTest::answerTakesNoCredit);
        Check.that("a task that has answered or is closed keeps its credits", ServerBoundsTest::creditsAreKept);
        Check.that("a task works also when its call has ended at the caller", ServerBoundsTest::workForEndedCall);
        Check.that("14: states 0 to 3", ServerBoundsTest::states);
    }

    private static void stepOfOtherMethods() {
        int[] values = {25, 5, 0};
        int[] outcomes = {0, 0, 3};
        for (int method = 0; method <= 2; method++) {
            Gate x = new Gate();
            Scenes.running(x, method, 5, 50);
            Check.due("work of method " + method, 2, x.work(0));
            taskIs(x, 0, 2, 2);
            Check.due("frames to the caller", 1, x.frames(1));
            Check.due("frame of the answer", 300, x.frame(1, 0));
            Check.due("value of the answer", values[method], x.frameValue(1, 0));
            x.deliver(1);
            Check.due("outcome", outcomes[method], x.outcome(0));
        }
    }

    private static void itemTakesCredit() {
        Gate x = new Gate();
        Scenes.streamWithCredits(x, 9, 5);
        for (int left = 5; left > 0; left--) {
            taskIs(x, 0, 1, left);
            Check.due("work with " + left + " credits", 1, x.work(0));
        }
        taskIs(x, 0, 1, 0);
        Check.stateRefused("work with 0 credits", () -> x.work(0));
        taskIs(x, 0, 1, 0);
        Check.due("frames to the caller", 5, x.frames(1));
    }

    private static void answerWithoutCredit() {
        Gate x = new Gate();
        Scenes.running(x, 3, 2, 50);
        Check.due("first step", 1, x.work(0));
        Check.due("second step", 1, x.work(0));
        taskIs(x, 0, 1, 0);
        Check.due("third step", 2, x.work(0));
        taskIs(x, 0, 2, 0);
        Check.due("value of the answer", 2, x.frameValue(1, 2));
    }

    private static void answerTakesNoCredit() {
        Gate x = new Gate();
        Scenes.streamWithCredits(x, 2, 3);
        x.work(0);
        x.work(0);
        Check.due("third step", 2, x.work(0));
        taskIs(x, 0, 2, 1);
    }

    private static void creditsAreKept() {
        Gate x = new Gate();
        Scenes.streamWithCredits(x, 1, 12);
        x.work(0);
        x.work(0);
        taskIs(x, 0, 2, 11);
        Gate cancelled = new Gate();
        Scenes.streamWithCredits(cancelled, 5, 12);
        cancelled.cancel(0);
        cancelled.deliver(0);
        taskIs(cancelled, 0, 3, 12);
        Gate overdue = new Gate();
        Scenes.running(overdue, 3, 5, 5);
        overdue.grant(0, 9);
        overdue.deliver(0);
        overdue.pass(200);
        taskIs(overdue, 0, 3, 11);
    }

    private static void workForEndedCall() {
        Gate x = new Gate();
        Scenes.running(x, 3, 1, 50);
        Scenes.running(x, 1, 9, 50);
        x.cancel(0);
        x.cancel(1);
        Check.due("an item", 1, x.work(0));
        Check.due("the answer of the stream", 2, x.work(0));
        Check.due("the answer of the other", 2, x.work(1));
        Check.due("frames to the caller", 3, x.frames(1));
        Check.due("total", 9, x.total());
    }

    private static void states() {
        Gate x = new Gate();
        x.open(3, 1, 50, -1);
        Check.due("unknown", 0, x.task(0));
        x.deliver(0);
        Check.due("running", 1, x.task(0));
        Check.due("state after an item", 1, x.work(0));
        Check.due("running after an item", 1, x.task(0));
        Check.due("state after the answer", 2, x.work(0));
        Check.due("answered", 2, x.task(0));
        x.deliver(1);
        x.deliver(1);
        Check.due("answered, and its call too", 2, x.task(0));
        Scenes.running(x, 0, 1, 50);
        x.cancel(1);
        Check.due("running while the cancellation is on its way", 1, x.task(1));
        x.deliver(0);
        Check.due("closed", 3, x.task(1));
    }
}
