/** Promises 13 to 17: the server's calls. */
public final class ServerTest {

    public static void main(String[] args) {
        requestMakesATask();
        requestOfAnEndedCallMakesATask();
        requestAtTheDeadlineDoesNothing();
        methodsAreWorked();
        secondRequestIsAnsweredOnce();
        secondRequestOfOtherTasksDoesNothing();
        answerIsSentAgainAfterTheDeadline();
        streamTakesCredits();
        creditsComeByFrames();
        creditsForOtherTasksDoNothing();
        cancellationClosesTasks();
        cancellationOfAnUnknownCallClosesItsTask();
        requestOfAClosedTaskDoesNothing();
        localChangesNothing();
        unknownCallsAreRefused();
        Check.end();
    }

    private static void requestMakesATask() {
        Callgate x = new Callgate();
        x.open(0, 3, 50, -1);
        Check.due("task of an unknown call", 0, x.task(0));
        Check.due("credits of an unknown call", 0, x.credits(0));
        Check.stateRefused("work for an unknown call", () -> x.work(0));
        x.deliver(0);
        Check.due("task", 1, x.task(0));
        Check.due("credits", 2, x.credits(0));
        Check.due("no answer without work", 0, x.frames(1));
    }

    private static void requestOfAnEndedCallMakesATask() {
        Callgate x = new Callgate();
        x.open(1, 3, 50, -1);
        x.cancel(0);
        x.deliver(0);
        Check.due("task of an ended call", 1, x.task(0));
        Check.due("work for an ended call", 2, x.work(0));
        Check.due("total", 3, x.total());
        x.deliver(0);
        Check.due("cancellation of an answered task", 2, x.task(0));
    }

    private static void requestAtTheDeadlineDoesNothing() {
        Callgate x = new Callgate();
        x.open(0, 3, 5, -1);
        x.open(0, 3, 6, -1);
        x.open(0, 3, 4, -1);
        x.pass(5);
        x.deliver(0);
        x.deliver(0);
        x.deliver(0);
        Check.due("task at the deadline", 0, x.task(0));
        Check.due("credits at the deadline", 0, x.credits(0));
        Check.due("task before the deadline", 1, x.task(1));
        Check.due("task after the deadline", 0, x.task(2));
    }

    private static void methodsAreWorked() {
        Callgate x = new Callgate();
        x.open(0, -1000, 50, -1);
        x.open(1, 1000, 50, -1);
        x.open(1, -300, 50, -1);
        x.open(2, 9, 50, -1);
        int[] totals = {0, 1000, 700, 700};
        int[] answers = {1000000, 1000, 700, 0};
        for (int i = 0; i < 4; i++) {
            x.deliver(0);
            Check.due("work(" + i + ")", 2, x.work(i));
            Check.due("total after work(" + i + ")", totals[i], x.total());
            Check.due("frame of answer " + i, 300 + i, x.frame(1, i));
            Check.due("value of answer " + i, answers[i], x.frameValue(1, i));
            Check.due("task " + i, 2, x.task(i));
            Check.due("an answered task keeps its credits", 2, x.credits(i));
        }
        Check.stateRefused("work for an answered task", () -> x.work(0));
        Check.stateRefused("work for a failed task", () -> x.work(3));
        Check.due("answers", 4, x.frames(1));
    }

    private static void secondRequestIsAnsweredOnce() {
        Callgate x = new Callgate();
        x.open(1, 5, 50, -1);
        x.open(1, 7, 50, -1);
        x.open(2, 0, 50, -1);
        x.pass(8);
        Check.due("requests", 6, x.frames(0));
        for (int i = 0; i < 3; i++) {
            x.deliver(0);
            x.work(i);
        }
        while (x.frames(1) > 0) {
            x.lose(1);
        }
        for (int i = 0; i < 3; i++) {
            x.deliver(0);
        }
        Check.due("answers sent again", 3, x.frames(1));
        Check.due("value sent again", 5, x.frameValue(1, 0));
        Check.due("second value sent again", 12, x.frameValue(1, 1));
        Check.due("failure sent again", 302, x.frame(1, 2));
        Check.due("total", 12, x.total());
        for (int i = 0; i < 3; i++) {
            x.deliver(1);
        }
        Check.due("value", 5, x.value(0));
        Check.due("outcome of the failure", 3, x.outcome(2));
    }

    private static void secondRequestOfOtherTasksDoesNothing() {
        Callgate x = new Callgate();
        x.open(3, 5, 50, -1);
        x.open(3, 5, 50, -1);
        x.pass(8);
        x.cancel(1);
        x.deliver(0);
        x.work(0);
        x.deliver(0);
        x.deliver(0);
        Check.due("running task", 1, x.task(0));
        Check.due("credits of a running task", 1, x.credits(0));
        Check.due("frames", 1, x.frames(1));
        Check.due("running task 1", 1, x.task(1));
        x.deliver(0);
        x.deliver(0);
        Check.due("closed task", 3, x.task(1));
        Check.due("frames of a closed task", 1, x.frames(1));
    }

    private static void answerIsSentAgainAfterTheDeadline() {
        Callgate x = new Callgate();
        x.open(0, 5, 10, -1);
        x.deliver(0);
        x.work(0);
        x.lose(1);
        x.pass(12);
        Check.due("outcome", 2, x.outcome(0));
        Check.due("task", 2, x.task(0));
        Check.due("repeated request", 0, x.deliver(0));
        Check.due("answer sent again", 300, x.frame(1, 0));
        Check.due("value sent again", 25, x.frameValue(1, 0));
        x.deliver(1);
        Check.due("outcome stays", 2, x.outcome(0));
    }

    private static void streamTakesCredits() {
        Callgate x = new Callgate();
        x.open(3, 3, 50, -1);
        x.deliver(0);
        Check.due("first step", 1, x.work(0));
        Check.due("credits after a step", 1, x.credits(0));
        Check.due("second step", 1, x.work(0));
        Check.due("credits after two steps", 0, x.credits(0));
        Check.stateRefused("a step without credit", () -> x.work(0));
        Check.due("frames", 2, x.frames(1));
        Check.due("frame of an item", 400, x.frame(1, 0));
        Check.due("first item", 3, x.frameValue(1, 0));
        Check.due("second item", 2, x.frameValue(1, 1));
        x.grant(0, 1);
        x.deliver(0);
        Check.due("third step", 1, x.work(0));
        Check.due("credits after three steps", 0, x.credits(0));
        Check.due("third item", 1, x.frameValue(1, 2));
        Check.due("the answer needs no credit", 2, x.work(0));
        Check.due("frame of the answer", 300, x.frame(1, 3));
        Check.due("value of the answer", 3, x.frameValue(1, 3));
        Check.stateRefused("a step after the answer", () -> x.work(0));
    }

    private static void creditsComeByFrames() {
        Callgate x = new Callgate();
        x.open(3, 30, 50, -1);
        x.grant(0, 10);
        x.grant(0, 4);
        x.grant(0, 9);
        x.deliver(0);
        x.deliver(0);
        Check.due("credits after a credit", 12, x.credits(0));
        x.lose(0);
        x.deliver(0);
        Check.due("credits after a lost credit", 21, x.credits(0));
    }

    private static void creditsForOtherTasksDoNothing() {
        Callgate x = new Callgate();
        x.open(3, 0, 50, -1);
        x.open(3, 5, 50, -1);
        x.open(3, 5, 9, -1);
        x.grant(0, 5);
        x.grant(1, 6);
        x.grant(2, 7);
        x.deliver(0);
        x.work(0);
        x.lose(0);
        x.deliver(0);
        x.pass(9);
        Check.due("task at its deadline", 3, x.task(2));
        x.deliver(0);
        x.deliver(0);
        x.deliver(0);
        Check.due("credits of an answered task", 2, x.credits(0));
        Check.due("credits of an unknown call", 0, x.credits(1));
        Check.due("task of an unknown call", 0, x.task(1));
        Check.due("credits of a closed task", 2, x.credits(2));
    }

    private static void cancellationClosesTasks() {
        Callgate x = new Callgate();
        x.open(3, 5, 50, -1);
        x.deliver(0);
        x.work(0);
        x.cancel(0);
        Check.due("task ahead of the cancellation", 1, x.task(0));
        x.deliver(0);
        Check.due("task", 3, x.task(0));
        Check.due("a closed task keeps its credits", 1, x.credits(0));
        Check.stateRefused("work for a closed task", () -> x.work(0));
        Check.due("frames", 1, x.frames(1));
    }

    private static void cancellationOfAnUnknownCallClosesItsTask() {
        Callgate x = new Callgate();
        x.open(3, 5, 50, -1);
        x.grant(0, 5);
        x.cancel(0);
        x.lose(0);
        x.deliver(0);
        Check.due("task without its request", 0, x.task(0));
        x.deliver(0);
        Check.due("task of an unknown cancelled call", 3, x.task(0));
        Check.due("its credits", 0, x.credits(0));
        Check.stateRefused("work for it", () -> x.work(0));
        Callgate late = new Callgate();
        late.open(0, 5, 2, -1);
        late.open(0, 5, 1000, 0);
        late.lose(0);
        late.lose(0);
        late.pass(2);
        Check.due("cancellation below a reached deadline", 101, late.frame(0, 0));
        late.deliver(0);
        Check.due("task cancelled at its deadline", 3, late.task(1));
        Check.due("its credits", 0, late.credits(1));
    }

    private static void requestOfAClosedTaskDoesNothing() {
        Callgate x = new Callgate();
        x.open(0, 5, 9, -1);
        x.deliver(0);
        x.pass(9);
        Check.due("task at its deadline", 3, x.task(0));
        Check.due("repeated request", 0, x.deliver(0));
        Check.due("task", 3, x.task(0));
        Check.due("frames", 0, x.frames(1));
    }

    private static void localChangesNothing() {
        Callgate x = new Callgate();
        Check.due("local(0, -1000)", 1000000, x.local(0, -1000));
        Check.due("local(1, 8)", 8, x.local(1, 8));
        Check.due("total after local", 0, x.total());
        Check.due("local(3, 1000)", 1000, x.local(3, 1000));
        Check.due("local(3, 0)", 0, x.local(3, 0));
        Check.due("local(3, -6)", 0, x.local(3, -6));
        Check.stateRefused("local(2, 0)", () -> x.local(2, 0));
        Check.argumentRefused("local(-1, 0)", () -> x.local(-1, 0));
        Check.argumentRefused("local(4, 0)", () -> x.local(4, 0));
        Check.argumentRefused("local(0, 1001)", () -> x.local(0, 1001));
        Check.argumentRefused("local(0, -1001)", () -> x.local(0, -1001));
        Check.argumentRefused("local(2, 1001)", () -> x.local(2, 1001));
        x.open(1, 30, 50, -1);
        x.deliver(0);
        x.work(0);
        Check.due("local(1, -8)", 22, x.local(1, -8));
        Check.due("local(1, 0)", 30, x.local(1, 0));
        Check.due("total", 30, x.total());
        Check.due("calls", 1, x.calls());
        Check.due("frames", 1, x.frames(1));
    }

    private static void unknownCallsAreRefused() {
        Callgate x = new Callgate();
        x.open(0, 1, 50, -1);
        int[] unknown = {-1, 1, 40, Integer.MIN_VALUE, Integer.MAX_VALUE};
        for (int call : unknown) {
            Check.indexRefused("work(" + call + ")", () -> x.work(call));
            Check.indexRefused("task(" + call + ")", () -> x.task(call));
            Check.indexRefused("credits(" + call + ")", () -> x.credits(call));
        }
    }
}
