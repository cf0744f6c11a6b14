/** 'Terms', the calls: their edges; and promises 1 to 11 where nothing is refused. */
public final class CallBoundsTest {

    /** The ways in which a call can end, beside that a call above it ends. */
    private enum Way { ANSWERED, CANCELLED, DEADLINE_REACHED, FAILED, BROKEN_BY_ANSWER, BROKEN_BY_ITEM }

    private static final int[] OUTCOMES = {0, 1, 2, 3, 4, 4};

    public static void main(String[] args) {
        Check.that("1: without calls, at the time 0, with 100 tokens and the total 0", CallBoundsTest::newObject);
        Check.that("calls are numbered from 0; at most 40", CallBoundsTest::numbers);
        Check.that("5: calls goes from 0 to 40, and counts what has ended", CallBoundsTest::callsCount);
        Check.that("the request is sent when a call is opened, its first attempt", CallBoundsTest::firstRequest);
        deadlines();
        Check.that("6: outcomes -1 and 0 to 4", CallBoundsTest::outcomes);
        Check.that("7: the least and the greatest values", CallBoundsTest::extremeValues);
        Check.that("10, 11: received and sum go from 0 on, and stay at the end", CallBoundsTest::receivedAndSum);
        Check.that("it ends once: an answer for an ended call does nothing", CallBoundsTest::answersForEndedCalls);
        Check.that("it ends once: a failure for an ended call does nothing", CallBoundsTest::failuresForEndedCalls);
        Check.that("it ends once: an item with the next index for an ended call does nothing",
            CallBoundsTest::itemsForEndedCalls);
        Check.that("it ends once: an item with a wrong index for an ended call does nothing",
            CallBoundsTest::wrongItemsForEndedCalls);
        Check.that("it ends once: a second answer does nothing", CallBoundsTest::secondAnswer);
        Check.that("it ends once: the deadline of an ended call does nothing", CallBoundsTest::deadlineOfEndedCalls);
        Check.that("it ends once: an ended call below does not end again", CallBoundsTest::endedCallBelow);
        for (Way way : Way.values()) {
            Check.that("open calls below a call that ends, end as cancelled: " + way, () -> callsBelow(way));
        }
        Check.that("calls below end by rising number, not branch by branch", CallBoundsTest::risingNumber);
        Check.that("calls below end down to the 40th", CallBoundsTest::chainOfForty);
        Check.that("39 calls below one call end", CallBoundsTest::fanOfForty);
        Check.that("calls above and beside go on", CallBoundsTest::othersGoOn);
        Check.that("3: how many calls end: 1 if no open call is below it", CallBoundsTest::cancelOfOne);
        Check.end();
    }

    private static void newObject() {
        Gate x = new Gate();
        Check.due("calls", 0, x.calls());
        Check.due("now", 0, x.now());
        Check.due("tokens", 100, x.tokens());
        Check.due("total", 0, x.total());
        Check.due("frames(0)", 0, x.frames(0));
        Check.due("frames(1)", 0, x.frames(1));
        Scenes.mixed(x);
        Gate y = new Gate();
        Check.due("calls of another object", 0, y.calls());
        Check.due("now of another object", 0, y.now());
        Check.due("tokens of another object", 100, y.tokens());
        Check.due("total of another object", 0, y.total());
        Check.due("frames(0) of another object", 0, y.frames(0));
        Check.due("frames(1) of another object", 0, y.frames(1));
    }

    private static void numbers() {
        Gate x = new Gate();
        for (int i = 0; i < 40; i++) {
            Check.due("open", i, x.open(i % 4, 1, 500, -1));
        }
        Check.stateRefused("a 41st call", () -> x.open(0, 1, 500, -1));
        Check.due("the request of the 40th call", 39, x.frame(0, 39));
    }

    private static void callsCount() {
        Gate x = new Gate();
        for (int i = 0; i < 40; i++) {
            Check.due("calls", i, x.calls());
            Scenes.ended(x, i % 5);
        }
        Check.due("calls at the end", 40, x.calls());
    }

    private static void firstRequest() {
        Gate x = new Gate();
        for (int method = 0; method <= 3; method++) {
            x.open(method, 1, 50, method - 1);
            Check.due("frames", method + 1, x.frames(0));
            Check.due("request", method, x.frame(0, method));
            Check.due("attempts", 1, x.attempts(method));
        }
        Check.due("tokens", 100, x.tokens());
        Check.due("nothing to the caller", 0, x.frames(1));
    }

    // ---- the deadline

    private static void deadlines() {
        Check.that("8: its deadline is now plus its timeout", CallBoundsTest::deadlineFromNow);
        Check.that("8: but not later than the deadline of its parent", CallBoundsTest::deadlineOfTheParent);
        Check.that("8: the parent's own deadline may come from above", CallBoundsTest::deadlineFromFarAbove);
        Check.that("8: the deadline stays when the call or its parent ends", CallBoundsTest::deadlineStays);
    }

    private static void deadlineFromNow() {
        Gate x = new Gate();
        x.open(0, 1, 1, -1);
        x.open(0, 1, 1000, -1);
        x.pass(200);
        x.open(0, 1, 1, -1);
        x.open(0, 1, 1000, -1);
        int[] due = {1, 1000, 201, 1200};
        for (int call = 0; call < 4; call++) {
            Check.due("deadline(" + call + ")", due[call], x.deadline(call));
        }
    }

    private static void deadlineOfTheParent() {
        Gate x = new Gate();
        x.pass(3);
        x.open(3, 5, 20, -1);
        int[] timeouts = {19, 20, 21, 1000, 1};
        int[] due = {22, 23, 23, 23, 4};
        for (int i = 0; i < timeouts.length; i++) {
            int call = x.open(0, 1, timeouts[i], 0);
            Check.due("deadline with " + timeouts[i], due[i], x.deadline(call));
        }
        x.pass(19);
        int late = x.open(0, 1, 1, 0);
        Check.due("deadline a tick ahead of the parent's, with 1", 23, x.deadline(late));
        int later = x.open(0, 1, 2, 0);
        Check.due("deadline a tick ahead of the parent's, with 2", 23, x.deadline(later));
        Check.due("deadline without a parent", 24, x.deadline(x.open(0, 1, 2, -1)));
    }

    private static void deadlineFromFarAbove() {
        Gate x = new Gate();
        x.open(0, 1, 10, -1);
        x.open(0, 1, 30, 0);
        x.open(0, 1, 30, 1);
        Check.due("deadline below two", 10, x.deadline(2));
        Gate y = new Gate();
        y.open(0, 1, 30, -1);
        y.open(0, 1, 10, 0);
        y.open(0, 1, 30, 1);
        Check.due("deadline below the shorter one", 10, y.deadline(2));
        Check.due("the parent keeps its own", 30, y.deadline(0));
    }

    private static void deadlineStays() {
        Gate x = new Gate();
        for (int outcome = 0; outcome <= 4; outcome++) {
            int call = Scenes.ended(x, outcome);
            Check.due("deadline with outcome " + outcome, new int[] {1000, 50, 1, 1001, 51}[call], x.deadline(call));
        }
        x.open(0, 1, 10, -1);
        x.open(0, 1, 30, 5);
        x.cancel(5);
        Check.due("deadline below an ended call", 11, x.deadline(6));
    }

    // ---- what the caller keeps of a call

    private static void outcomes() {
        Gate x = new Gate();
        Scenes.mixed(x);
        for (int outcome = 0; outcome <= 4; outcome++) {
            Check.due("outcome", outcome, x.outcome(outcome));
        }
        Check.due("outcome of an open call", -1, x.outcome(5));
    }

    private static void extremeValues() {
        Gate x = new Gate();
        for (int i = 0; i < 38; i++) {
            Scenes.answered(x, 1, -1000);
        }
        Scenes.answered(x, 0, 1000);
        Scenes.answered(x, 0, -1000);
        Check.due("least value", -38000, x.value(37));
        Check.due("greatest value", 1000000, x.value(38));
        Check.due("the last call's", 1000000, x.value(39));
        Check.due("the first call's", -1000, x.value(0));
    }

    private static void receivedAndSum() {
        Gate x = new Gate();
        Scenes.streamWithCredits(x, 3, 3);
        int[] sums = {0, 3, 5, 6};
        for (int items = 0; items < 3; items++) {
            Check.due("received", items, x.received(0));
            Check.due("sum", sums[items], x.sum(0));
            x.work(0);
            Check.due("received while the item is on its way", items, x.received(0));
            x.deliver(1);
        }
        Check.due("received all", 3, x.received(0));
        Check.due("sum of all", 6, x.sum(0));
        x.work(0);
        x.deliver(1);
        Check.due("received at the end", 3, x.received(0));
        Check.due("sum at the end", 6, x.sum(0));
    }

    // ---- a call ends once

    /** Ends the open call, whose link is empty, by cancelling it or by its deadline. */
    private static void endEarly(Gate x, int call, int outcome) {
        if (outcome == Scenes.CANCELLED) {
            x.cancel(call);
        } else {
            x.pass(5);
        }
        Scenes.lostAll(x, 0);
        Check.due("outcome ahead of the frame", outcome, x.outcome(call));
    }

    private static void lateFrame(int method, int argument, int steps, int outcome) {
        Gate x = new Gate();
        Scenes.running(x, method, argument, 5);
        x.open(0, 1, 500, -1);
        x.lose(0);
        for (int i = 0; i < steps; i++) {
            x.work(0);
        }
        endEarly(x, 0, outcome);
        for (int i = 1; i < steps; i++) {
            x.lose(1);
        }
        Check.due("the late frame", 0, x.deliver(1));
        Check.due("frames left", 0, x.frames(1));
        Check.due("outcome", outcome, x.outcome(0));
        Check.due("received", 0, x.received(0));
        Check.due("sum", 0, x.sum(0));
        Check.due("tokens", 100, x.tokens());
        Check.due("frames to the server", 0, x.frames(0));
        Check.stateRefused("value", () -> x.value(0));
        Check.due("the other call", -1, x.outcome(1));
    }

    private static void answersForEndedCalls() {
        for (int outcome = 1; outcome <= 2; outcome++) {
            lateFrame(0, 3, 1, outcome);
            lateFrame(1, 3, 1, outcome);
            lateFrame(3, 0, 1, outcome);
        }
        Gate x = new Gate();
        Scenes.running(x, 3, 2, 50);
        x.work(0);
        x.work(0);
        x.work(0);
        x.lose(1);
        x.deliver(1);
        Check.due("outcome of a broken call", 4, x.outcome(0));
        x.deliver(1);
        Check.due("outcome with its answer", 4, x.outcome(0));
        Check.due("frames to the server", 1, x.frames(0));
    }

    private static void failuresForEndedCalls() {
        lateFrame(2, 3, 1, Scenes.CANCELLED);
        lateFrame(2, 3, 1, Scenes.DEADLINE_REACHED);
    }

    private static void itemsForEndedCalls() {
        lateFrame(3, 3, 1, Scenes.CANCELLED);
        lateFrame(3, 3, 1, Scenes.DEADLINE_REACHED);
    }

    private static void wrongItemsForEndedCalls() {
        lateFrame(3, 3, 2, Scenes.CANCELLED);
        lateFrame(3, 3, 2, Scenes.DEADLINE_REACHED);
        Gate x = new Gate();
        Scenes.streamWithCredits(x, 5, 4);
        x.open(0, 1, 50, 0);
        x.lose(0);
        for (int i = 0; i < 4; i++) {
            x.work(0);
        }
        x.lose(1);
        x.deliver(1);
        Check.due("frames to the server with a broken call", 2, x.frames(0));
        Scenes.deliveredAll(x, 1);
        Check.due("outcome of the broken call", 4, x.outcome(0));
        Check.due("frames to the server with later items", 2, x.frames(0));
        Check.due("received", 0, x.received(0));
        Check.due("sum", 0, x.sum(0));
    }

    private static void secondAnswer() {
        for (int method = 0; method <= 2; method++) {
            Gate x = new Gate();
            x.open(method, 3, 50, -1);
            x.pass(16);
            Check.due("tokens", 80, x.tokens());
            x.deliver(0);
            x.work(0);
            x.deliver(0);
            x.deliver(0);
            Check.due("answers", 3, x.frames(1));
            x.deliver(1);
            int outcome = method == 2 ? 3 : 0;
            int tokens = method == 2 ? 80 : 81;
            Check.due("outcome", outcome, x.outcome(0));
            Check.due("tokens with the first answer", tokens, x.tokens());
            Check.due("the second answer", 0, x.deliver(1));
            Check.due("the third answer", 0, x.deliver(1));
            Check.due("outcome with the third answer", outcome, x.outcome(0));
            Check.due("tokens with the third answer", tokens, x.tokens());
            Check.due("frames", 0, x.frames(0) + x.frames(1));
        }
    }

    private static void deadlineOfEndedCalls() {
        for (Way way : Way.values()) {
            if (way == Way.DEADLINE_REACHED) {
                continue;
            }
            Gate x = new Gate();
            open(x, way, 20);
            bring(x, way);
            Scenes.lostAll(x, 0);
            Check.due("pass of the deadline, " + way, 0, x.pass(25));
            Check.due("outcome, " + way, OUTCOMES[way.ordinal()], x.outcome(0));
            Check.due("frames, " + way, 0, x.frames(0));
        }
        Gate x = new Gate();
        x.open(0, 1, 5, -1);
        Check.due("pass of the deadline", 1, x.pass(5));
        Check.due("pass of more", 0, x.pass(200));
    }

    private static void endedCallBelow() {
        for (int outcome = 0; outcome <= 4; outcome++) {
            Gate x = new Gate();
            Scenes.running(x, 3, 5, 500);
            int call = endedBelow(x, outcome);
            Scenes.lostAll(x, 0);
            Check.due("outcome ahead", outcome, x.outcome(call));
            Check.due("cancel above a call with outcome " + outcome, 1, x.cancel(0));
            Check.due("frames", 1, x.frames(0));
            Check.due("the cancellation", 100, x.frame(0, 0));
            Check.due("outcome", outcome, x.outcome(call));
        }
    }

    /** Opens call 1 below call 0, and brings it to its end. */
    private static int endedBelow(Gate x, int outcome) {
        int[] methods = {0, 0, 0, 2, 3};
        int call = x.open(methods[outcome], 1, 5, 0);
        x.deliver(0);
        if (outcome == Scenes.CANCELLED) {
            x.cancel(call);
        } else if (outcome == Scenes.DEADLINE_REACHED) {
            x.pass(5);
        } else {
            x.work(call);
            if (outcome == Scenes.BROKEN) {
                x.work(call);
                x.lose(1);
            }
            x.deliver(1);
        }
        return call;
    }

    // ---- what ends with a call

    private static void open(Gate x, Way way, int timeout) {
        switch (way) {
            case FAILED:
                x.open(2, 1, timeout, -1);
                break;
            case BROKEN_BY_ANSWER:
                x.open(3, 1, timeout, -1);
                break;
            case BROKEN_BY_ITEM:
                x.open(3, 2, timeout, -1);
                break;
            default:
                x.open(0, 1, timeout, -1);
        }
    }

    /** Brings call 0, whose request is the first frame, to its end; answers how many end, if it is told. */
    private static int bring(Gate x, Way way) {
        x.deliver(0);
        switch (way) {
            case CANCELLED:
                return x.cancel(0);
            case DEADLINE_REACHED:
                return x.pass(20);
            case BROKEN_BY_ANSWER:
            case BROKEN_BY_ITEM:
                x.work(0);
                x.work(0);
                x.lose(1);
                x.deliver(1);
                return -1;
            default:
                x.work(0);
                x.deliver(1);
                return -1;
        }
    }

    /** Below call 0 are 1, 4 and, below 1, 2; 6 and, below it, 7 stand apart; 5 is a grandchild that has ended. */
    private static void callsBelow(Way way) {
        Gate x = new Gate();
        open(x, way, 20);
        int[] parents = {-1, 0, 1, -1, 0, 1, 3, 6};
        for (int call = 1; call < parents.length; call++) {
            x.open(0, 1, 500, parents[call]);
        }
        x.cancel(5);
        int told = bring(x, way);
        Check.due("how many end", told == -1 ? -1 : 4, told);
        int[] outcomes = {OUTCOMES[way.ordinal()], 1, 1, -1, 1, 1, -1, -1};
        for (int call = 0; call < outcomes.length; call++) {
            Check.due("outcome(" + call + ")", outcomes[call], x.outcome(call));
        }
        cancellationsAre(x, way == Way.CANCELLED || way == Way.BROKEN_BY_ITEM
            ? new int[] {5, 0, 1, 2, 4} : new int[] {5, 1, 2, 4});
    }

    /** The cancellations on their way to the server, in their order. */
    private static void cancellationsAre(Gate x, int... calls) {
        int seen = 0;
        int frames = x.frames(0);
        for (int place = 0; place < frames; place++) {
            int frame = x.frame(0, place);
            if (frame / 100 == 1) {
                Check.due("cancellation " + seen, seen < calls.length ? 100 + calls[seen] : -1, frame);
                Check.due("its value", 0, x.frameValue(0, place));
                seen++;
            }
        }
        Check.due("cancellations", calls.length, seen);
    }

    private static void risingNumber() {
        Gate x = new Gate();
        int[] parents = {-1, 0, 0, 1, 2, 1, 3, 0, 4};
        for (int parent : parents) {
            x.open(0, 1, 50, parent);
        }
        Scenes.lostAll(x, 0);
        Check.due("cancel(0)", 9, x.cancel(0));
        cancellationsAre(x, 0, 1, 2, 3, 4, 5, 6, 7, 8);
    }

    private static void chainOfForty() {
        Gate x = new Gate();
        for (int i = 0; i < 40; i++) {
            x.open(0, 1, 500, i - 1);
        }
        Scenes.lostAll(x, 0);
        Check.due("cancel(38)", 2, x.cancel(38));
        Check.due("cancel(0)", 38, x.cancel(0));
        Check.due("frames", 40, x.frames(0));
        for (int i = 0; i < 40; i++) {
            Check.due("outcome(" + i + ")", 1, x.outcome(i));
            Check.due("cancellation", 100 + (i < 2 ? 38 + i : i - 2), x.frame(0, i));
        }
        Gate whole = new Gate();
        for (int i = 0; i < 40; i++) {
            whole.open(0, 1, 500, i - 1);
        }
        Check.due("cancel of forty", 40, whole.cancel(0));
    }

    private static void fanOfForty() {
        Gate x = new Gate();
        Scenes.running(x, 0, 1, 500);
        for (int i = 1; i < 40; i++) {
            x.open(0, 1, 500, 0);
            x.lose(0);
        }
        x.work(0);
        x.deliver(1);
        Check.due("outcome(0)", 0, x.outcome(0));
        Check.due("frames", 39, x.frames(0));
        for (int i = 1; i < 40; i++) {
            Check.due("outcome(" + i + ")", 1, x.outcome(i));
            Check.due("cancellation", 100 + i, x.frame(0, i - 1));
        }
    }

    private static void othersGoOn() {
        Gate x = new Gate();
        int[] parents = {-1, 0, 1, 0, -1, 4};
        for (int parent : parents) {
            x.open(0, 1, 50, parent);
        }
        Scenes.lostAll(x, 0);
        Check.due("cancel(1)", 2, x.cancel(1));
        int[] outcomes = {-1, 1, 1, -1, -1, -1};
        for (int call = 0; call < outcomes.length; call++) {
            Check.due("outcome(" + call + ")", outcomes[call], x.outcome(call));
        }
        cancellationsAre(x, 1, 2);
    }

    private static void cancelOfOne() {
        Gate x = new Gate();
        x.open(0, 1, 50, -1);
        x.open(0, 1, 50, 0);
        x.open(0, 1, 50, 0);
        Check.due("cancel without a call below", 1, x.cancel(2));
        Check.due("cancel with one of two left", 2, x.cancel(0));
        Check.due("cancel of the only call", 1, x.cancel(x.open(0, 1, 50, -1)));
    }
}
