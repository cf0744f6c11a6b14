/** 'Terms', at the caller: what comes of answers and items; and promise 12, the tokens. */
public final class CallerBoundsTest {

    public static void main(String[] args) {
        answers();
        items();
        tokens();
        Check.end();
    }

    // ---- an answer comes

    private static void answers() {
        Check.that("an answer for an open call ends it with its result", CallerBoundsTest::answerEnds);
        Check.that("a stream is answered if the value is the number of items received", CallerBoundsTest::allReceived);
        Check.that("a stream is broken if one item was lost", CallerBoundsTest::lastItemLost);
        Check.that("a stream is broken if all items were lost", CallerBoundsTest::allItemsLost);
        Check.that("no cancellation is sent for it, but for those below", CallerBoundsTest::brokenByAnswerIsSilent);
        Check.that("other methods may answer any value", CallerBoundsTest::otherMethodsAnswerAnyValue);
        Check.that("a repeated answer of a stream can still end it", CallerBoundsTest::streamAnsweredAgain);
    }

    private static void answerEnds() {
        int[] outcomes = {0, 0, 3, 0};
        for (int method = 0; method <= 3; method++) {
            Gate x = new Gate();
            Scenes.worked(x, method, 0);
            Check.due("outcome ahead of the answer", -1, x.outcome(0));
            Check.due("the answer", 0, x.deliver(1));
            Check.due("outcome of method " + method, outcomes[method], x.outcome(0));
            Check.due("frames to the server", 0, x.frames(0));
        }
    }

    /** A stream of that many items, of which the last ones are lost, with a call below it; all has come. */
    private static Gate stream(int items, int lost) {
        Gate x = new Gate();
        Scenes.streamWithCredits(x, items, Math.max(2, items));
        x.open(0, 1, 50, 0);
        x.lose(0);
        for (int i = 0; i <= items; i++) {
            x.work(0);
        }
        for (int i = 0; i < items - lost; i++) {
            x.deliver(1);
        }
        for (int i = 0; i < lost; i++) {
            x.lose(1);
        }
        Check.due("outcome ahead of the answer", -1, x.outcome(0));
        x.deliver(1);
        return x;
    }

    private static void allReceived() {
        for (int items = 0; items <= 12; items++) {
            Gate x = stream(items, 0);
            Check.due("outcome with " + items + " items", 0, x.outcome(0));
            Check.due("value", items, x.value(0));
            Check.due("received", items, x.received(0));
        }
    }

    private static void lastItemLost() {
        for (int items = 1; items <= 12; items++) {
            Gate x = stream(items, 1);
            Check.due("outcome with " + items + " items", 4, x.outcome(0));
            Check.due("received", items - 1, x.received(0));
            Check.due("sum", items * (items + 1) / 2 - 1, x.sum(0));
        }
    }

    private static void allItemsLost() {
        for (int items = 1; items <= 12; items++) {
            Gate x = stream(items, items);
            Check.due("outcome with " + items + " items", 4, x.outcome(0));
            Check.due("received", 0, x.received(0));
            Check.due("sum", 0, x.sum(0));
        }
    }

    private static void brokenByAnswerIsSilent() {
        Gate x = stream(3, 1);
        Check.due("outcome of the call below", 1, x.outcome(1));
        Check.due("frames to the server", 1, x.frames(0));
        Check.due("the cancellation below", 101, x.frame(0, 0));
        Check.due("task", 2, x.task(0));
        Gate alone = new Gate();
        Scenes.endedStream(alone, Scenes.BROKEN);
        Check.due("outcome", 4, alone.outcome(0));
        Check.due("frames to the server", 0, alone.frames(0));
    }

    private static void otherMethodsAnswerAnyValue() {
        for (int method = 0; method <= 1; method++) {
            for (int argument = -1; argument <= 2; argument++) {
                Gate x = new Gate();
                Scenes.answered(x, method, argument);
                Check.due("outcome of method " + method + " with " + argument, 0, x.outcome(0));
                Check.due("value", method == 0 ? argument * argument : argument, x.value(0));
            }
        }
    }

    private static void streamAnsweredAgain() {
        Gate x = new Gate();
        Scenes.running(x, 3, 0, 50);
        x.pass(8);
        x.work(0);
        x.lose(1);
        x.deliver(0);
        x.deliver(1);
        Check.due("outcome without items", 0, x.outcome(0));
        Gate lost = new Gate();
        Scenes.running(lost, 3, 1, 50);
        lost.pass(8);
        lost.work(0);
        lost.work(0);
        Scenes.lostAll(lost, 1);
        lost.deliver(0);
        Check.due("frames to the caller", 1, lost.frames(1));
        lost.deliver(1);
        Check.due("outcome without its item", 4, lost.outcome(0));
    }

    // ---- an item comes

    private static void items() {
        Check.that("an item is received if its index is the number of items received", CallerBoundsTest::nextIndex);
        Check.that("with an index of one more the call is broken", () -> indexTooGreat(1));
        Check.that("with an index of far more the call is broken", () -> indexTooGreat(7));
        Check.that("the first item lost: the call is broken", CallerBoundsTest::firstItemLost);
        Check.that("a cancellation is sent for it, ahead of those below", CallerBoundsTest::brokenByItemIsTold);
        Check.that("what was received ahead stays", CallerBoundsTest::receivedStays);
    }

    private static void nextIndex() {
        Gate x = new Gate();
        Scenes.streamWithCredits(x, 20, 20);
        int sum = 0;
        for (int i = 0; i < 20; i++) {
            x.work(0);
            x.deliver(1);
            sum += 20 - i;
            Check.due("received", i + 1, x.received(0));
            Check.due("sum", sum, x.sum(0));
            Check.due("outcome", -1, x.outcome(0));
        }
        Check.due("frames to the server", 0, x.frames(0));
    }

    private static Gate withLost(int received, int lost) {
        Gate x = new Gate();
        Scenes.streamWithCredits(x, 50, received + lost + 2);
        for (int i = 0; i < received + lost + 1; i++) {
            x.work(0);
        }
        for (int i = 0; i < received; i++) {
            x.deliver(1);
        }
        for (int i = 0; i < lost; i++) {
            x.lose(1);
        }
        Check.due("received ahead", received, x.received(0));
        Check.due("outcome ahead", -1, x.outcome(0));
        x.deliver(1);
        return x;
    }

    private static void indexTooGreat(int lost) {
        for (int received = 0; received <= 3; received++) {
            Gate x = withLost(received, lost);
            Check.due("outcome after " + received, 4, x.outcome(0));
            Check.due("frames to the server", 1, x.frames(0));
            Check.due("the cancellation", 100, x.frame(0, 0));
            Check.due("tokens", 100, x.tokens());
        }
    }

    private static void firstItemLost() {
        Gate x = withLost(0, 1);
        Check.due("outcome", 4, x.outcome(0));
        Check.due("received", 0, x.received(0));
        Check.due("sum", 0, x.sum(0));
        Check.due("task ahead of the cancellation", 1, x.task(0));
        x.deliver(0);
        Check.due("task", 3, x.task(0));
    }

    private static void brokenByItemIsTold() {
        Gate x = new Gate();
        x.open(0, 1, 50, -1);
        x.open(3, 5, 50, 0);
        x.open(0, 1, 50, 1);
        x.open(0, 1, 50, 0);
        x.open(0, 1, 50, 2);
        Scenes.deliveredAll(x, 0);
        x.work(1);
        x.work(1);
        x.lose(1);
        x.deliver(1);
        int[] outcomes = {-1, 4, 1, -1, 1};
        for (int call = 0; call < 5; call++) {
            Check.due("outcome(" + call + ")", outcomes[call], x.outcome(call));
        }
        Check.due("frames to the server", 3, x.frames(0));
        Check.due("its cancellation", 101, x.frame(0, 0));
        Check.due("the first below", 102, x.frame(0, 1));
        Check.due("the second below", 104, x.frame(0, 2));
    }

    private static void receivedStays() {
        Gate x = withLost(3, 1);
        Check.due("received", 3, x.received(0));
        Check.due("sum", 50 + 49 + 48, x.sum(0));
        Check.due("attempts", 1, x.attempts(0));
    }

    // ---- the tokens

    private static void tokens() {
        Check.that("12: there are 100 tokens at first", () -> Check.due("tokens", 100, new Gate().tokens()));
        Check.that("12: a call that ends as answered gives 1 token back", CallerBoundsTest::answeredGivesBack);
        Check.that("12: a stream that ends as answered does so too", CallerBoundsTest::streamGivesBack);
        Check.that("12: there are never more than 100", CallerBoundsTest::neverMoreThanHundred);
        Check.that("12: no other end gives a token back", CallerBoundsTest::otherEndsGiveNothing);
        Check.that("12: tokens go down to 0", CallerBoundsTest::downToZero);
    }

    /** Call 0 has been repeated, and tokens are 90; the link is empty. */
    private static Gate withNinety() {
        Gate x = new Gate();
        x.open(0, 1, 9, -1);
        x.pass(9);
        Scenes.lostAll(x, 0);
        Check.due("tokens", 90, x.tokens());
        return x;
    }

    private static void answeredGivesBack() {
        Gate x = withNinety();
        Scenes.answered(x, 0, 1);
        Check.due("tokens with method 0", 91, x.tokens());
        Scenes.worked(x, 1, 1);
        Check.due("tokens ahead of the answer", 91, x.tokens());
        x.deliver(1);
        Check.due("tokens with method 1", 92, x.tokens());
    }

    private static void streamGivesBack() {
        Gate x = withNinety();
        Scenes.answered(x, 3, 0);
        Check.due("tokens with no items", 91, x.tokens());
        Scenes.running(x, 3, 1, 50);
        x.work(2);
        x.work(2);
        x.deliver(1);
        Check.due("tokens with an item", 91, x.tokens());
        x.deliver(1);
        Check.due("tokens with the answer", 92, x.tokens());
    }

    private static void neverMoreThanHundred() {
        Gate x = withNinety();
        for (int tokens = 91; tokens <= 100; tokens++) {
            Scenes.answered(x, 0, 1);
            Check.due("tokens", tokens, x.tokens());
        }
        Scenes.answered(x, 0, 1);
        Check.due("tokens with one more", 100, x.tokens());
        Scenes.answered(x, 1, 1);
        Check.due("tokens with two more", 100, x.tokens());
        Gate fresh = new Gate();
        Scenes.answered(fresh, 0, 1);
        Check.due("tokens of a new object", 100, fresh.tokens());
    }

    private static void otherEndsGiveNothing() {
        Gate x = withNinety();
        for (int outcome = 1; outcome <= 4; outcome++) {
            Check.due("outcome", outcome, x.outcome(Scenes.ended(x, outcome)));
            Check.due("tokens with outcome " + outcome, 90, x.tokens());
        }
        Scenes.running(x, 3, 3, 50);
        x.work(5);
        x.work(5);
        x.lose(1);
        x.deliver(1);
        Check.due("outcome", 4, x.outcome(5));
        Check.due("tokens with a broken stream", 90, x.tokens());
        Scenes.lostAll(x, 0);
        Scenes.running(x, 0, 3, 50);
        x.open(0, 3, 50, 6);
        x.open(0, 3, 50, 6);
        Scenes.lostAll(x, 0);
        x.work(6);
        x.deliver(1);
        Check.due("tokens with an answered call and two cancelled below", 91, x.tokens());
    }

    private static void downToZero() {
        Gate x = new Gate();
        for (int i = 0; i < 9; i++) {
            x.open(0, 1, 500, -1);
        }
        x.pass(8);
        Check.due("tokens after nine repeats", 10, x.tokens());
        x.open(0, 1, 500, -1);
        x.pass(8);
        Check.due("tokens after ten repeats", 0, x.tokens());
        x.pass(200);
        Check.due("tokens much later", 0, x.tokens());
        Scenes.lostAll(x, 0);
        Scenes.answered(x, 0, 1);
        Check.due("tokens with an answered call", 1, x.tokens());
    }
}
