/** Promises 13 to 17: the server's calls. */
public final class ServerTest {

    public static void main(String[] args) {
        Check.that("request makes a task", ServerTest::requestMakesATask);
        Check.that("methods are worked", ServerTest::methodsAreWorked);
        Check.that("second request is answered once", ServerTest::secondRequestIsAnsweredOnce);
        Check.that("stream takes credits", ServerTest::streamTakesCredits);
        Check.that("credits come by frames", ServerTest::creditsComeByFrames);
        Check.that("cancellation closes tasks", ServerTest::cancellationClosesTasks);
        Check.that("local changes nothing", ServerTest::localChangesNothing);
        Check.end();
    }

    private static void requestMakesATask() {
        Gate x = new Gate();
        x.open(0, 3, 50, -1);
        Check.due("task of an unknown call", 0, x.task(0));
        Check.due("credits of an unknown call", 0, x.credits(0));
        Check.stateRefused("work for an unknown call", () -> x.work(0));
        x.deliver(0);
        Check.due("task", 1, x.task(0));
        Check.due("credits", 2, x.credits(0));
        Check.due("no answer without work", 0, x.frames(1));
    }

    private static void methodsAreWorked() {
        Gate x = new Gate();
        x.open(0, -1000, 50, -1);
        x.open(1, 1000, 50, -1);
        x.open(1, -300, 50, -1);
        x.open(2, 9, 50, -1);
        int[] totals = {0, 1000, 700, 700};
        int[] answers = {1000000, 1000, 700, 0};
        for (int i = 0; i < 4; i++) {
            x.deliver(0);
            Check.due("work(" + i + ")", 2, x.work(i));
            Check.due("total after work(" + i + ")", totals[i], x.total());
            Check.due("frame of answer " + i, 300 + i, x.frame(1, i));
            Check.due("value of answer " + i, answers[i], x.frameValue(1, i));
            Check.due("task " + i, 2, x.task(i));
            Check.due("an answered task keeps its credits", 2, x.credits(i));
        }
        Check.stateRefused("work for an answered task", () -> x.work(0));
        Check.stateRefused("work for a failed task", () -> x.work(3));
        Check.due("answers", 4, x.frames(1));
    }

    private static void secondRequestIsAnsweredOnce() {
        Gate x = new Gate();
        x.open(1, 5, 50, -1);
        x.open(1, 7, 50, -1);
        x.open(2, 0, 50, -1);
        x.pass(8);
        Check.due("requests", 6, x.frames(0));
        for (int i = 0; i < 3; i++) {
            x.deliver(0);
            x.work(i);
        }
        while (x.frames(1) > 0) {
            x.lose(1);
        }
        for (int i = 0; i < 3; i++) {
            x.deliver(0);
        }
        Check.due("answers sent again", 3, x.frames(1));
        Check.due("value sent again", 5, x.frameValue(1, 0));
        Check.due("second value sent again", 12, x.frameValue(1, 1));
        Check.due("failure sent again", 302, x.frame(1, 2));
        Check.due("total", 12, x.total());
        for (int i = 0; i < 3; i++) {
            x.deliver(1);
        }
        Check.due("value", 5, x.value(0));
        Check.due("outcome of the failure", 3, x.outcome(2));
    }

    private static void streamTakesCredits() {
        Gate x = new Gate();
        x.open(3, 3, 50, -1);
        x.deliver(0);
        Check.due("first step", 1, x.work(0));
        Check.due("credits after a step", 1, x.credits(0));
        Check.due("second step", 1, x.work(0));
        Check.due("credits after two steps", 0, x.credits(0));
        Check.stateRefused("a step without credit", () -> x.work(0));
        Check.due("frames", 2, x.frames(1));
        Check.due("frame of an item", 400, x.frame(1, 0));
        Check.due("first item", 3, x.frameValue(1, 0));
        Check.due("second item", 2, x.frameValue(1, 1));
        x.grant(0, 1);
        x.deliver(0);
        Check.due("third step", 1, x.work(0));
        Check.due("credits after three steps", 0, x.credits(0));
        Check.due("third item", 1, x.frameValue(1, 2));
        Check.due("the answer needs no credit", 2, x.work(0));
        Check.due("frame of the answer", 300, x.frame(1, 3));
        Check.due("value of the answer", 3, x.frameValue(1, 3));
        Check.stateRefused("a step after the answer", () -> x.work(0));
    }

    private static void creditsComeByFrames() {
        Gate x = new Gate();
        x.open(3, 30, 50, -1);
        x.grant(0, 10);
        x.grant(0, 4);
        x.grant(0, 9);
        x.deliver(0);
        x.deliver(0);
        Check.due("credits after a credit", 12, x.credits(0));
        x.lose(0);
        x.deliver(0);
        Check.due("credits after a lost credit", 21, x.credits(0));
    }

    private static void cancellationClosesTasks() {
        Gate x = new Gate();
        x.open(3, 5, 50, -1);
        x.deliver(0);
        x.work(0);
        x.cancel(0);
        Check.due("task ahead of the cancellation", 1, x.task(0));
        x.deliver(0);
        Check.due("task", 3, x.task(0));
        Check.due("a closed task keeps its credits", 1, x.credits(0));
        Check.stateRefused("work for a closed task", () -> x.work(0));
        Check.due("frames", 1, x.frames(1));
    }

    private static void localChangesNothing() {
        Gate x = new Gate();
        Check.due("local(0, -1000)", 1000000, x.local(0, -1000));
        Check.due("local(1, 8)", 8, x.local(1, 8));
        Check.due("total after local", 0, x.total());
        Check.due("local(3, 1000)", 1000, x.local(3, 1000));
        Check.due("local(3, 0)", 0, x.local(3, 0));
        Check.due("local(3, -6)", 0, x.local(3, -6));
        Check.stateRefused("local(2, 0)", () -> x.local(2, 0));
        Check.argumentRefused("local(-1, 0)", () -> x.local(-1, 0));
        Check.argumentRefused("local(4, 0)", () -> x.local(4, 0));
        Check.argumentRefused("local(0, 1001)", () -> x.local(0, 1001));
        Check.argumentRefused("local(0, -1001)", () -> x.local(0, -1001));
        Check.argumentRefused("local(2, 1001)", () -> x.local(2, 1001));
        x.open(1, 30, 50, -1);
        x.deliver(0);
        x.work(0);
        Check.due("local(1, -8)", 22, x.local(1, -8));
        Check.due("local(1, 0)", 30, x.local(1, 0));
        Check.due("total", 30, x.total());
        Check.due("calls", 1, x.calls());
        Check.due("frames", 1, x.frames(1));
    }
}
