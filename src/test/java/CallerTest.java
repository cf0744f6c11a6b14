/** Promises 1 to 12: a new object, and the caller's calls. */
public final class CallerTest {

    public static void main(String[] args) {
        newObject();
        openNumbersCallsAndSendsRequests();
        openRefuses();
        openIsFullAtForty();
        deadlineIsNotLaterThanTheParents();
        cancelEndsCallsBelowByRisingNumber();
        cancelLeavesOtherCalls();
        cancelRefuses();
        grantSendsCredit();
        grantRefuses();
        answersEndCalls();
        endedCallsIgnoreFrames();
        answeredParentCancelsCallsBelow();
        streamIsReceived();
        streamWithoutItemsIsAnswered();
        lostItemBreaksTheStream();
        lostLastItemBreaksTheStreamSilently();
        unknownCallsAreRefused();
        answeredCallsGiveTokensBack();
        Check.end();
    }

    private static void newObject() {
        Callgate x = new Callgate();
        Check.due("new calls", 0, x.calls());
        Check.due("new frames(0)", 0, x.frames(0));
        Check.due("new frames(1)", 0, x.frames(1));
        Check.due("new now", 0, x.now());
        Check.due("new tokens", 100, x.tokens());
        Check.due("new total", 0, x.total());
        Callgate y = new Callgate();
        y.open(1, 5, 10, -1);
        Check.due("calls of another object", 0, x.calls());
    }

    private static void openNumbersCallsAndSendsRequests() {
        Callgate x = new Callgate();
        Check.due("first open", 0, x.open(0, -1000, 1, -1));
        Check.due("second open", 1, x.open(3, 1000, 1000, 0));
        Check.due("calls", 2, x.calls());
        Check.due("outcome of an open call", -1, x.outcome(0));
        Check.due("attempts of a new call", 1, x.attempts(0));
        Check.due("received of a new call", 0, x.received(1));
        Check.due("sum of a new call", 0, x.sum(1));
        Check.due("frames after two opens", 2, x.frames(0));
        Check.due("request of call 1", 1, x.frame(0, 1));
        Check.due("value of a request", 0, x.frameValue(0, 1));
        Check.due("tokens after opens", 100, x.tokens());
    }

    private static void openRefuses() {
        Callgate x = new Callgate();
        Check.indexRefused("parent -2", () -> x.open(0, 0, 1, -2));
        Check.indexRefused("parent 0 of none", () -> x.open(0, 0, 1, 0));
        Check.indexRefused("unknown parent goes first", () -> x.open(9, 0, 1, 0));
        Check.indexRefused("greatest parent", () -> x.open(0, 0, 1, Integer.MAX_VALUE));
        Check.argumentRefused("method -1", () -> x.open(-1, 0, 1, -1));
        Check.argumentRefused("method 4", () -> x.open(4, 0, 1, -1));
        Check.argumentRefused("argument -1001", () -> x.open(0, -1001, 1, -1));
        Check.argumentRefused("argument 1001", () -> x.open(0, 1001, 1, -1));
        Check.argumentRefused("timeout 0", () -> x.open(0, 0, 0, -1));
        Check.argumentRefused("timeout 1001", () -> x.open(0, 0, 1001, -1));
        Check.argumentRefused("least argument", () -> x.open(0, Integer.MIN_VALUE, 1, -1));
        Check.due("calls after refusals", 0, x.calls());
        Check.due("frames after refusals", 0, x.frames(0));
        x.open(0, 0, 5, -1);
        x.cancel(0);
        Check.stateRefused("ended parent", () -> x.open(0, 0, 1, 0));
        Check.argumentRefused("bad timeout goes before an ended parent", () -> x.open(0, 0, 0, 0));
        Check.argumentRefused("bad method goes before an ended parent", () -> x.open(4, 0, 1, 0));
        Check.due("calls after an ended parent", 1, x.calls());
    }

    private static void openIsFullAtForty() {
        Callgate x = new Callgate();
        for (int i = 0; i < 40; i++) {
            Check.due("open " + i, i, x.open(0, i, 500, -1));
        }
        Check.stateRefused("a 41st call", () -> x.open(0, 0, 1, -1));
        Check.stateRefused("a 41st call with a parent", () -> x.open(0, 0, 1, 39));
        Check.indexRefused("a 41st call with an unknown parent", () -> x.open(0, 0, 1, 40));
        Check.argumentRefused("a 41st call with a bad method", () -> x.open(4, 0, 1, -1));
        Check.due("calls", 40, x.calls());
        Check.due("frames", 40, x.frames(0));
        x.cancel(3);
        Check.stateRefused("a 41st call after one has ended", () -> x.open(0, 0, 1, -1));
    }

    private static void deadlineIsNotLaterThanTheParents() {
        Callgate x = new Callgate();
        x.pass(3);
        x.open(3, 5, 20, -1);
        x.open(0, 5, 21, 0);
        x.open(0, 5, 19, 0);
        x.open(0, 5, 1000, 2);
        x.pass(4);
        x.open(0, 5, 20, 0);
        x.open(0, 5, 20, -1);
        Check.due("deadline 0", 23, x.deadline(0));
        Check.due("deadline 1", 23, x.deadline(1));
        Check.due("deadline 2", 22, x.deadline(2));
        Check.due("deadline 3", 22, x.deadline(3));
        Check.due("deadline 4", 23, x.deadline(4));
        Check.due("deadline 5", 27, x.deadline(5));
        x.cancel(0);
        Check.due("deadline of an ended call", 23, x.deadline(0));
    }

    private static void cancelEndsCallsBelowByRisingNumber() {
        Callgate x = new Callgate();
        x.open(0, 1, 50, -1);
        x.open(0, 1, 50, 0);
        x.open(0, 1, 50, -1);
        x.open(0, 1, 50, 0);
        x.open(0, 1, 50, 1);
        x.open(0, 1, 50, 2);
        x.open(0, 1, 50, 4);
        Check.due("cancel(0)", 5, x.cancel(0));
        int[] cancelled = {0, 1, 3, 4, 6};
        Check.due("frames", 7 + cancelled.length, x.frames(0));
        for (int i = 0; i < cancelled.length; i++) {
            Check.due("cancellation " + i, 100 + cancelled[i], x.frame(0, 7 + i));
            Check.due("value of cancellation " + i, 0, x.frameValue(0, 7 + i));
            Check.due("outcome " + cancelled[i], 1, x.outcome(cancelled[i]));
        }
        Check.due("outcome 2", -1, x.outcome(2));
        Check.due("outcome 5", -1, x.outcome(5));
        Check.due("tokens", 100, x.tokens());
    }

    private static void cancelLeavesOtherCalls() {
        Callgate x = new Callgate();
        x.open(0, 1, 50, -1);
        x.open(0, 1, 50, 0);
        x.open(0, 1, 50, 1);
        Check.due("cancel(1)", 2, x.cancel(1));
        Check.due("outcome of the parent", -1, x.outcome(0));
        Check.due("cancel(0) without what has ended", 1, x.cancel(0));
        Check.due("frames", 6, x.frames(0));
        Check.due("last cancellation", 100, x.frame(0, 5));
    }

    private static void cancelRefuses() {
        Callgate x = new Callgate();
        Check.indexRefused("cancel(0) of none", () -> x.cancel(0));
        x.open(0, 1, 50, -1);
        Check.indexRefused("cancel(-1)", () -> x.cancel(-1));
        Check.indexRefused("cancel(1)", () -> x.cancel(1));
        x.cancel(0);
        Check.stateRefused("second cancel(0)", () -> x.cancel(0));
        Check.due("frames", 2, x.frames(0));
        Check.due("outcome", 1, x.outcome(0));
    }

    private static void grantSendsCredit() {
        Callgate x = new Callgate();
        x.open(3, 5, 50, -1);
        x.grant(0, 1);
        x.grant(0, 10);
        Check.due("frames", 3, x.frames(0));
        Check.due("first credit", 200, x.frame(0, 1));
        Check.due("number of the first credit", 1, x.frameValue(0, 1));
        Check.due("number of the second credit", 10, x.frameValue(0, 2));
    }

    private static void grantRefuses() {
        Callgate x = new Callgate();
        Check.indexRefused("grant(0, 1) of none", () -> grant(x, 0, 1));
        x.open(3, 5, 50, -1);
        x.open(0, 5, 50, -1);
        Check.indexRefused("grant(-1, 0)", () -> grant(x, -1, 0));
        Check.indexRefused("grant(2, 0)", () -> grant(x, 2, 0));
        Check.argumentRefused("grant(0, 0)", () -> grant(x, 0, 0));
        Check.argumentRefused("grant(0, 11)", () -> grant(x, 0, 11));
        Check.argumentRefused("grant(1, 0)", () -> grant(x, 1, 0));
        Check.stateRefused("grant for method 0", () -> grant(x, 1, 1));
        x.cancel(0);
        Check.stateRefused("grant for an ended call", () -> grant(x, 0, 1));
        Check.argumentRefused("grant(0, 11) for an ended call", () -> grant(x, 0, 11));
        Check.due("frames", 3, x.frames(0));
    }

    private static int grant(Callgate x, int call, int number) {
        x.grant(call, number);
        return 0;
    }

    private static void answersEndCalls() {
        Callgate x = new Callgate();
        x.open(0, -7, 50, -1);
        x.open(1, -4, 50, -1);
        x.open(2, 3, 50, -1);
        for (int i = 0; i < 3; i++) {
            x.deliver(0);
            x.work(i);
        }
        Check.stateRefused("value of an open call", () -> x.value(0));
        for (int i = 0; i < 3; i++) {
            Check.due("deliver(1)", i, x.deliver(1));
        }
        Check.due("outcome 0", 0, x.outcome(0));
        Check.due("outcome 1", 0, x.outcome(1));
        Check.due("outcome 2", 3, x.outcome(2));
        Check.due("value 0", 49, x.value(0));
        Check.due("value 1", -4, x.value(1));
        Check.stateRefused("value of a failed call", () -> x.value(2));
        Check.due("no cancellation for answered calls", 0, x.frames(0));
        x.open(0, 1, 50, -1);
        x.cancel(3);
        Check.stateRefused("value of a cancelled call", () -> x.value(3));
    }

    private static void endedCallsIgnoreFrames() {
        Callgate x = new Callgate();
        x.open(0, 3, 50, -1);
        x.open(3, 3, 50, -1);
        x.deliver(0);
        x.deliver(0);
        x.work(0);
        x.work(1);
        x.work(1);
        x.cancel(0);
        x.cancel(1);
        Check.due("frames to the caller", 3, x.frames(1));
        Check.due("answer for an ended call", 0, x.deliver(1));
        Check.due("item for an ended call", 1, x.deliver(1));
        Check.due("second item for an ended call", 1, x.deliver(1));
        Check.due("outcome 0", 1, x.outcome(0));
        Check.due("outcome 1", 1, x.outcome(1));
        Check.due("received", 0, x.received(1));
        Check.due("sum", 0, x.sum(1));
        Check.due("frames to the caller at the end", 0, x.frames(1));
        Check.due("frames to the server", 2, x.frames(0));
    }

    private static void answeredParentCancelsCallsBelow() {
        for (int method = 0; method <= 2; method++) {
            Callgate x = new Callgate();
            x.open(method, 3, 50, -1);
            x.open(0, 3, 50, 0);
            x.open(0, 3, 50, 1);
            x.deliver(0);
            x.work(0);
            x.deliver(1);
            Check.due("outcome of the parent", method == 2 ? 3 : 0, x.outcome(0));
            Check.due("outcome of the child", 1, x.outcome(1));
            Check.due("outcome of the grandchild", 1, x.outcome(2));
            Check.due("frames", 4, x.frames(0));
            Check.due("cancellation of the child", 101, x.frame(0, 2));
            Check.due("cancellation of the grandchild", 102, x.frame(0, 3));
        }
    }

    private static void streamIsReceived() {
        Callgate x = new Callgate();
        x.open(3, 2, 50, -1);
        x.deliver(0);
        x.work(0);
        x.work(0);
        Check.due("last step", 2, x.work(0));
        x.deliver(1);
        Check.due("received 1", 1, x.received(0));
        Check.due("sum 1", 2, x.sum(0));
        x.deliver(1);
        Check.due("received 2", 2, x.received(0));
        Check.due("sum 2", 3, x.sum(0));
        Check.due("outcome before the answer", -1, x.outcome(0));
        x.deliver(1);
        Check.due("outcome", 0, x.outcome(0));
        Check.due("value", 2, x.value(0));
        Check.due("received at the end", 2, x.received(0));
        Check.due("sum at the end", 3, x.sum(0));
    }

    private static void streamWithoutItemsIsAnswered() {
        for (int argument = -1; argument <= 0; argument++) {
            Callgate x = new Callgate();
            x.open(3, argument, 50, -1);
            x.deliver(0);
            Check.due("only step", 2, x.work(0));
            Check.due("credits", 2, x.credits(0));
            x.deliver(1);
            Check.due("outcome", 0, x.outcome(0));
            Check.due("value", 0, x.value(0));
        }
    }

    private static void lostItemBreaksTheStream() {
        Callgate x = new Callgate();
        x.open(3, 3, 50, -1);
        x.open(0, 3, 50, 0);
        x.deliver(0);
        x.work(0);
        x.work(0);
        x.lose(1);
        Check.due("frame of the second item", 400, x.frame(1, 0));
        x.deliver(1);
        Check.due("outcome", 4, x.outcome(0));
        Check.due("outcome of the child", 1, x.outcome(1));
        Check.due("received", 0, x.received(0));
        Check.due("sum", 0, x.sum(0));
        Check.due("frames", 3, x.frames(0));
        Check.due("cancellation of the broken call", 100, x.frame(0, 1));
        Check.due("cancellation of the child", 101, x.frame(0, 2));
        Check.stateRefused("value of a broken call", () -> x.value(0));
    }

    private static void lostLastItemBreaksTheStreamSilently() {
        Callgate x = new Callgate();
        x.open(3, 2, 50, -1);
        x.open(0, 3, 50, 0);
        x.deliver(0);
        x.work(0);
        x.work(0);
        x.work(0);
        x.deliver(1);
        x.lose(1);
        x.deliver(1);
        Check.due("outcome", 4, x.outcome(0));
        Check.due("received", 1, x.received(0));
        Check.due("sum", 2, x.sum(0));
        Check.due("outcome of the child", 1, x.outcome(1));
        Check.due("frames", 2, x.frames(0));
        Check.due("cancellation of the child", 101, x.frame(0, 1));
        Check.due("tokens", 100, x.tokens());
    }

    private static void unknownCallsAreRefused() {
        Callgate x = new Callgate();
        x.open(0, 1, 50, -1);
        int[] unknown = {-1, 1, 40, Integer.MIN_VALUE, Integer.MAX_VALUE};
        for (int call : unknown) {
            Check.indexRefused("outcome(" + call + ")", () -> x.outcome(call));
            Check.indexRefused("value(" + call + ")", () -> x.value(call));
            Check.indexRefused("deadline(" + call + ")", () -> x.deadline(call));
            Check.indexRefused("attempts(" + call + ")", () -> x.attempts(call));
            Check.indexRefused("received(" + call + ")", () -> x.received(call));
            Check.indexRefused("sum(" + call + ")", () -> x.sum(call));
        }
    }

    private static void answeredCallsGiveTokensBack() {
        Callgate x = new Callgate();
        x.open(0, 1, 50, -1);
        x.open(2, 1, 50, -1);
        x.open(3, 0, 50, -1);
        x.open(0, 2, 50, -1);
        x.lose(0);
        x.pass(8);
        Check.due("tokens after four repeats", 60, x.tokens());
        for (int i = 1; i < 4; i++) {
            x.deliver(0);
            x.work(i);
            x.deliver(1);
        }
        Check.due("tokens after two answers and a failure", 62, x.tokens());
        Callgate full = new Callgate();
        full.open(0, 1, 50, -1);
        full.deliver(0);
        full.work(0);
        full.deliver(1);
        Check.due("tokens are never more than 100", 100, full.tokens());
    }
}
