/** Promises 1 to 12: a new object, and the caller's calls. */
public final class CallerTest {

    public static void main(String[] args) {
        Check.that("open numbers calls and sends requests", CallerTest::openNumbersCallsAndSendsRequests);
        Check.that("cancel ends calls below by rising number", CallerTest::cancelEndsCallsBelowByRisingNumber);
        Check.that("grant sends credit", CallerTest::grantSendsCredit);
        Check.that("answers end calls", CallerTest::answersEndCalls);
        Check.that("stream is received", CallerTest::streamIsReceived);
        Check.that("lost item breaks the stream", CallerTest::lostItemBreaksTheStream);
        Check.that("lost last item breaks the stream silently", CallerTest::lostLastItemBreaksTheStreamSilently);
        Check.that("answered calls give tokens back", CallerTest::answeredCallsGiveTokensBack);
        Check.end();
    }

    private static void openNumbersCallsAndSendsRequests() {
        Gate x = new Gate();
        Check.due("first open", 0, x.open(0, -1000, 1, -1));
        Check.due("second open", 1, x.open(3, 1000, 1000, 0));
        Check.due("calls", 2, x.calls());
        Check.due("outcome of an open call", -1, x.outcome(0));
        Check.due("attempts of a new call", 1, x.attempts(0));
        Check.due("received of a new call", 0, x.received(1));
        Check.due("sum of a new call", 0, x.sum(1));
        Check.due("frames after two opens", 2, x.frames(0));
        Check.due("request of call 1", 1, x.frame(0, 1));
        Check.due("value of a request", 0, x.frameValue(0, 1));
        Check.due("tokens after opens", 100, x.tokens());
    }

    private static void cancelEndsCallsBelowByRisingNumber() {
        Gate x = new Gate();
        x.open(0, 1, 50, -1);
        x.open(0, 1, 50, 0);
        x.open(0, 1, 50, -1);
        x.open(0, 1, 50, 0);
        x.open(0, 1, 50, 1);
        x.open(0, 1, 50, 2);
        x.open(0, 1, 50, 4);
        Check.due("cancel(0)", 5, x.cancel(0));
        int[] cancelled = {0, 1, 3, 4, 6};
        Check.due("frames", 7 + cancelled.length, x.frames(0));
        for (int i = 0; i < cancelled.length; i++) {
            Check.due("cancellation " + i, 100 + cancelled[i], x.frame(0, 7 + i));
            Check.due("value of cancellation " + i, 0, x.frameValue(0, 7 + i));
            Check.due("outcome " + cancelled[i], 1, x.outcome(cancelled[i]));
        }
        Check.due("outcome 2", -1, x.outcome(2));
        Check.due("outcome 5", -1, x.outcome(5));
        Check.due("tokens", 100, x.tokens());
    }

    private static void grantSendsCredit() {
        Gate x = new Gate();
        x.open(3, 5, 50, -1);
        x.grant(0, 1);
        x.grant(0, 10);
        Check.due("frames", 3, x.frames(0));
        Check.due("first credit", 200, x.frame(0, 1));
        Check.due("number of the first credit", 1, x.frameValue(0, 1));
        Check.due("number of the second credit", 10, x.frameValue(0, 2));
    }

    private static void answersEndCalls() {
        Gate x = new Gate();
        x.open(0, -7, 50, -1);
        x.open(1, -4, 50, -1);
        x.open(2, 3, 50, -1);
        for (int i = 0; i < 3; i++) {
            x.deliver(0);
            x.work(i);
        }
        Check.stateRefused("value of an open call", () -> x.value(0));
        for (int i = 0; i < 3; i++) {
            Check.due("deliver(1)", i, x.deliver(1));
        }
        Check.due("outcome 0", 0, x.outcome(0));
        Check.due("outcome 1", 0, x.outcome(1));
        Check.due("outcome 2", 3, x.outcome(2));
        Check.due("value 0", 49, x.value(0));
        Check.due("value 1", -4, x.value(1));
        Check.stateRefused("value of a failed call", () -> x.value(2));
        Check.due("no cancellation for answered calls", 0, x.frames(0));
        x.open(0, 1, 50, -1);
        x.cancel(3);
        Check.stateRefused("value of a cancelled call", () -> x.value(3));
    }

    private static void streamIsReceived() {
        Gate x = new Gate();
        x.open(3, 2, 50, -1);
        x.deliver(0);
        x.work(0);
        x.work(0);
        Check.due("last step", 2, x.work(0));
        x.deliver(1);
        Check.due("received 1", 1, x.received(0));
        Check.due("sum 1", 2, x.sum(0));
        x.deliver(1);
        Check.due("received 2", 2, x.received(0));
        Check.due("sum 2", 3, x.sum(0));
        Check.due("outcome before the answer", -1, x.outcome(0));
        x.deliver(1);
        Check.due("outcome", 0, x.outcome(0));
        Check.due("value", 2, x.value(0));
        Check.due("received at the end", 2, x.received(0));
        Check.due("sum at the end", 3, x.sum(0));
    }

    private static void lostItemBreaksTheStream() {
        Gate x = new Gate();
        x.open(3, 3, 50, -1);
        x.open(0, 3, 50, 0);
        x.deliver(0);
        x.work(0);
        x.work(0);
        x.lose(1);
        Check.due("frame of the second item", 400, x.frame(1, 0));
        x.deliver(1);
        Check.due("outcome", 4, x.outcome(0));
        Check.due("outcome of the child", 1, x.outcome(1));
        Check.due("received", 0, x.received(0));
        Check.due("sum", 0, x.sum(0));
        Check.due("frames", 3, x.frames(0));
        Check.due("cancellation of the broken call", 100, x.frame(0, 1));
        Check.due("cancellation of the child", 101, x.frame(0, 2));
        Check.stateRefused("value of a broken call", () -> x.value(0));
    }

    private static void lostLastItemBreaksTheStreamSilently() {
        Gate x = new Gate();
        x.open(3, 2, 50, -1);
        x.open(0, 3, 50, 0);
        x.deliver(0);
        x.work(0);
        x.work(0);
        x.work(0);
        x.deliver(1);
        x.lose(1);
        x.deliver(1);
        Check.due("outcome", 4, x.outcome(0));
        Check.due("received", 1, x.received(0));
        Check.due("sum", 2, x.sum(0));
        Check.due("outcome of the child", 1, x.outcome(1));
        Check.due("frames", 2, x.frames(0));
        Check.due("cancellation of the child", 101, x.frame(0, 1));
        Check.due("tokens", 100, x.tokens());
    }

    private static void answeredCallsGiveTokensBack() {
        Gate x = new Gate();
        x.open(0, 1, 50, -1);
        x.open(2, 1, 50, -1);
        x.open(3, 0, 50, -1);
        x.open(0, 2, 50, -1);
        x.lose(0);
        x.pass(8);
        Check.due("tokens after four repeats", 60, x.tokens());
        for (int i = 1; i < 4; i++) {
            x.deliver(0);
            x.work(i);
            x.deliver(1);
        }
        Check.due("tokens after two answers and a failure", 62, x.tokens());
        Gate full = new Gate();
        full.open(0, 1, 50, -1);
        full.deliver(0);
        full.work(0);
        full.deliver(1);
        Check.due("tokens are never more than 100", 100, full.tokens());
    }
}
