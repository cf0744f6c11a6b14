/** 'Terms', the clock: its edges; and promises 9, 23 and 24 where nothing is refused. */
public final class ClockBoundsTest {

    public static void main(String[] args) {
        ticks();
        deadlines();
        tasks();
        repeats();
        repeatTokens();
        Check.that("the 512th call is answered like those before it", ClockBoundsTest::lastCall);
        Check.end();
    }

    // ---- now

    private static void ticks() {
        Check.that("24: with each tick now becomes 1 more", ClockBoundsTest::nowCounts);
        Check.that("24: nothing but pass changes now", ClockBoundsTest::nowStays);
        Check.that("23: ticks pass one after the other: many at once are like many alone", ClockBoundsTest::oneByOne);
        Check.that("23: how many calls end: none, one, and all forty", ClockBoundsTest::howManyEnd);
        Check.that("23: how many calls end in all of the ticks", ClockBoundsTest::endsOfAllTicks);
    }

    private static void nowCounts() {
        Gate x = new Gate();
        Check.due("now at first", 0, x.now());
        int now = 0;
        for (int ticks : new int[] {1, 2, 199, 200, 200, 1}) {
            Check.due("pass(" + ticks + ")", 0, x.pass(ticks));
            now += ticks;
            Check.due("now", now, x.now());
        }
    }

    private static void nowStays() {
        Gate x = new Gate();
        x.pass(1);
        Scenes.answered(x, 0, 1);
        x.open(0, 1, 5, -1);
        x.cancel(1);
        x.lose(0);
        x.local(0, 1);
        Check.due("now", 1, x.now());
    }

    private static void oneByOne() {
        Gate once = new Gate();
        Gate often = new Gate();
        Scenes.mixed(once);
        Scenes.mixed(often);
        int ended = 0;
        for (int i = 0; i < 200; i++) {
            ended += often.pass(1);
        }
        Check.due("how many end", ended, once.pass(200));
        Check.due("told alike", 1, Twins.told(often).equals(Twins.told(once)) ? 1 : 0);
        Check.due("all five end", 5, ended);
    }

    private static void howManyEnd() {
        Gate x = new Gate();
        Check.due("pass without calls", 0, x.pass(200));
        x.open(0, 1, 2, -1);
        Check.due("pass ahead of the deadline", 0, x.pass(1));
        Check.due("pass to the deadline", 1, x.pass(1));
        Check.due("pass after the deadline", 0, x.pass(200));
        Gate forty = new Gate();
        for (int i = 0; i < 40; i++) {
            forty.open(0, 1, 200, i % 2 == 0 ? -1 : i - 1);
        }
        Check.due("pass ahead of forty deadlines", 0, forty.pass(199));
        Check.due("pass to forty deadlines", 40, forty.pass(1));
    }

    private static void endsOfAllTicks() {
        Gate x = new Gate();
        for (int i = 1; i <= 20; i++) {
            x.open(0, 1, i, -1);
        }
        Check.due("pass(1)", 1, x.pass(1));
        Check.due("pass(9)", 9, x.pass(9));
        Check.due("pass(200)", 10, x.pass(200));
    }

    // ---- open calls at their deadlines

    private static void deadlines() {
        Check.that("each open call whose deadline is now ends, and not a tick ahead", ClockBoundsTest::deadlineReached);
        Check.that("the least and the greatest timeout", ClockBoundsTest::extremeTimeouts);
        Check.that("no cancellation is sent for it", ClockBoundsTest::deadlineIsSilent);
        Check.that("but for open calls below it, which end as cancelled", ClockBoundsTest::deadlineCancelsBelow);
        Check.that("by rising number, each with the calls below it", ClockBoundsTest::deadlinesByRisingNumber);
        Check.that("a call that ends ahead of its parent", ClockBoundsTest::deadlineOfAChild);
        Check.that("a call below one that ends in its own tick", ClockBoundsTest::deadlineOfAGrandchild);
    }

    private static void deadlineReached() {
        Gate x = new Gate();
        x.pass(3);
        x.open(0, 1, 5, -1);
        x.open(3, 1, 6, -1);
        Check.due("pass(4)", 0, x.pass(4));
        Check.due("outcome a tick ahead", -1, x.outcome(0));
        Check.due("pass(1)", 1, x.pass(1));
        Check.due("now", 8, x.now());
        Check.due("outcome at the deadline", 2, x.outcome(0));
        Check.due("outcome of the other", -1, x.outcome(1));
        Check.due("pass(1)", 1, x.pass(1));
        Check.due("outcome of the other at its deadline", 2, x.outcome(1));
    }

    private static void extremeTimeouts() {
        Gate x = new Gate();
        x.open(0, 1, 1, -1);
        x.open(0, 1, 1000, -1);
        Check.due("first tick", 1, x.pass(1));
        Check.due("outcome with the least", 2, x.outcome(0));
        for (int i = 0; i < 4; i++) {
            Check.due("pass(200)", 0, x.pass(200));
        }
        Check.due("pass to a tick ahead", 0, x.pass(198));
        Check.due("outcome a tick ahead", -1, x.outcome(1));
        Check.due("the last tick", 1, x.pass(1));
        Check.due("now", 1000, x.now());
        Check.due("outcome with the greatest", 2, x.outcome(1));
    }

    private static void deadlineIsSilent() {
        Gate x = new Gate();
        Scenes.running(x, 3, 5, 5);
        Check.due("pass(5)", 1, x.pass(5));
        Check.due("frames to the server", 0, x.frames(0));
        Check.due("frames to the caller", 0, x.frames(1));
        Check.due("tokens", 100, x.tokens());
    }

    private static void deadlineCancelsBelow() {
        Gate x = new Gate();
        x.open(0, 1, 5, -1);
        x.open(0, 1, 5, 0);
        x.open(0, 1, 50, 1);
        x.open(0, 1, 6, -1);
        Scenes.lostAll(x, 0);
        Check.due("pass(5)", 3, x.pass(5));
        int[] outcomes = {2, 1, 1, -1};
        for (int call = 0; call < 4; call++) {
            Check.due("outcome(" + call + ")", outcomes[call], x.outcome(call));
        }
        Check.due("frames", 2, x.frames(0));
        Check.due("first cancellation", 101, x.frame(0, 0));
        Check.due("second cancellation", 102, x.frame(0, 1));
    }

    private static void deadlinesByRisingNumber() {
        Gate x = new Gate();
        int[] parents = {-1, -1, -1, 2, 1, 0, 1, -1};
        for (int parent : parents) {
            x.open(0, 1, 5, parent);
        }
        Scenes.lostAll(x, 0);
        Check.due("pass(5)", 8, x.pass(5));
        int[] outcomes = {2, 2, 2, 1, 1, 1, 1, 2};
        for (int call = 0; call < 8; call++) {
            Check.due("outcome(" + call + ")", outcomes[call], x.outcome(call));
        }
        int[] cancelled = {5, 4, 6, 3};
        Check.due("frames", 4, x.frames(0));
        for (int i = 0; i < 4; i++) {
            Check.due("cancellation", 100 + cancelled[i], x.frame(0, i));
        }
    }

    private static void deadlineOfAChild() {
        Gate x = new Gate();
        x.open(0, 1, 6, -1);
        x.open(0, 1, 5, 0);
        x.open(0, 1, 7, 0);
        Scenes.lostAll(x, 0);
        Check.due("pass(5)", 1, x.pass(5));
        Check.due("outcome of the parent", -1, x.outcome(0));
        Check.due("outcome of the child", 2, x.outcome(1));
        Check.due("frames", 0, x.frames(0));
        Check.due("pass(1)", 2, x.pass(1));
        Check.due("outcome of the parent at its deadline", 2, x.outcome(0));
        Check.due("outcome of the child", 2, x.outcome(1));
        Check.due("outcome of the other child", 1, x.outcome(2));
        Check.due("frames", 1, x.frames(0));
        Check.due("the cancellation", 102, x.frame(0, 0));
    }

    private static void deadlineOfAGrandchild() {
        Gate x = new Gate();
        x.open(0, 1, 6, -1);
        x.open(0, 1, 5, 0);
        x.open(0, 1, 9, 1);
        x.open(0, 1, 4, 1);
        Scenes.lostAll(x, 0);
        Check.due("pass(4)", 1, x.pass(4));
        Check.due("outcome of the other grandchild", 2, x.outcome(3));
        Check.due("pass(1)", 2, x.pass(1));
        Check.due("outcome of the child", 2, x.outcome(1));
        Check.due("outcome of the grandchild", 1, x.outcome(2));
        Check.due("outcome of the other grandchild", 2, x.outcome(3));
        Check.due("outcome of the parent", -1, x.outcome(0));
        Check.due("frames", 1, x.frames(0));
        Check.due("the cancellation", 102, x.frame(0, 0));
    }

    // ---- running tasks at their deadlines

    private static void tasks() {
        Check.that("each running task whose call's deadline is now is closed, and not a tick ahead",
            ClockBoundsTest::runningTaskIsClosed);
        Check.that("also if its call had ended before", ClockBoundsTest::taskOfEndedCallIsClosed);
        Check.that("also if its call ends below another in the same tick", ClockBoundsTest::taskBelowIsClosed);
        Check.that("no task but a running one", ClockBoundsTest::otherTasksStay);
    }

    private static void runningTaskIsClosed() {
        Gate x = new Gate();
        Scenes.running(x, 3, 5, 5);
        Scenes.running(x, 1, 5, 6);
        x.work(0);
        x.pass(4);
        Check.due("task a tick ahead", 1, x.task(0));
        Check.due("work a tick ahead", 1, x.work(0));
        x.pass(1);
        Check.due("task at the deadline", 3, x.task(0));
        Check.due("its credits", 0, x.credits(0));
        Check.due("the other task", 1, x.task(1));
        Check.due("work of the other", 2, x.work(1));
        Check.due("frames to the server", 0, x.frames(0));
    }

    private static void taskOfEndedCallIsClosed() {
        Gate x = new Gate();
        Scenes.running(x, 3, 5, 5);
        x.cancel(0);
        x.lose(0);
        x.pass(4);
        Check.due("task a tick ahead", 1, x.task(0));
        Check.due("pass(1)", 0, x.pass(1));
        Check.due("task at the deadline", 3, x.task(0));
        Check.due("its credits", 2, x.credits(0));
        Check.due("outcome", 1, x.outcome(0));
        Gate broken = new Gate();
        Scenes.running(broken, 3, 5, 5);
        broken.work(0);
        broken.work(0);
        broken.lose(1);
        broken.deliver(1);
        broken.lose(0);
        broken.pass(5);
        Check.due("task of a broken call at the deadline", 3, broken.task(0));
    }

    private static void taskBelowIsClosed() {
        Gate x = new Gate();
        Scenes.running(x, 0, 1, 5);
        x.open(3, 5, 50, 0);
        x.deliver(0);
        Check.due("pass(5)", 2, x.pass(5));
        Check.due("task of the parent", 3, x.task(0));
        Check.due("task of the child", 3, x.task(1));
        Check.due("its credits", 2, x.credits(1));
        Check.due("the cancellation", 1, x.deliver(0));
        Check.due("task with the cancellation", 3, x.task(1));
        Check.due("its credits", 2, x.credits(1));
    }

    private static void otherTasksStay() {
        Gate x = new Gate();
        x.open(0, 1, 5, -1);
        x.lose(0);
        Scenes.running(x, 1, 7, 5);
        x.work(1);
        x.open(0, 1, 5, -1);
        x.lose(0);
        x.cancel(2);
        x.deliver(0);
        x.pass(5);
        Check.due("an unknown call", 0, x.task(0));
        Check.due("its credits", 0, x.credits(0));
        Check.due("an answered task", 2, x.task(1));
        Check.due("its credits", 2, x.credits(1));
        Check.due("a closed task", 3, x.task(2));
        Check.due("its credits", 0, x.credits(2));
    }

    // ---- requests that are sent again

    private static void repeats() {
        Check.that("if its latest request was sent 8 ticks ago", ClockBoundsTest::eightTicks);
        Check.that("or earlier", ClockBoundsTest::moreThanEightTicks);
        Check.that("9: it has made fewer than 4 attempts", ClockBoundsTest::fourAttempts);
        Check.that("each open call that has received no items", ClockBoundsTest::receivedItems);
        Check.that("an item on its way, or lost, has not been received", ClockBoundsTest::itemsNotReceived);
        Check.that("each open call: not one that has ended", ClockBoundsTest::endedCallsAreNotRepeated);
        Check.that("each open call: not one whose deadline is now", ClockBoundsTest::deadlineGoesAheadOfRepeats);
        Check.that("each open call, of each method, also one whose task has answered", ClockBoundsTest::allMethods);
        Check.that("its request is sent again, with the cancellations of the tick ahead",
            ClockBoundsTest::cancellationsAheadOfRequests);
    }

    private static void eightTicks() {
        Gate x = new Gate();
        x.pass(2);
        x.open(0, 1, 500, -1);
        x.lose(0);
        x.pass(7);
        Check.due("attempts after 7 ticks", 1, x.attempts(0));
        Check.due("frames after 7 ticks", 0, x.frames(0));
        x.pass(1);
        Check.due("attempts after 8 ticks", 2, x.attempts(0));
        Check.due("frames after 8 ticks", 1, x.frames(0));
        Check.due("the request", 0, x.frame(0, 0));
        Check.due("its value", 0, x.frameValue(0, 0));
        Check.due("tokens", 90, x.tokens());
        x.pass(7);
        Check.due("attempts after 7 more", 2, x.attempts(0));
        x.pass(1);
        Check.due("attempts after 8 more", 3, x.attempts(0));
        Check.due("tokens", 80, x.tokens());
    }

    /** Tokens are 0 until call 10's request is 11 ticks old; then the next one counts from that tick. */
    private static void moreThanEightTicks() {
        Gate x = new Gate();
        for (int i = 0; i < 11; i++) {
            x.open(0, 1, 500, -1);
        }
        x.pass(11);
        Check.due("attempts without tokens", 1, x.attempts(10));
        for (int i = 0; i < 10; i++) {
            x.deliver(0);
            x.work(i);
            x.deliver(1);
        }
        Check.due("tokens", 10, x.tokens());
        Check.due("attempts ahead of a tick", 1, x.attempts(10));
        x.pass(1);
        Check.due("attempts after 12 ticks", 2, x.attempts(10));
        Check.due("tokens", 0, x.tokens());
        Scenes.lostAll(x, 0);
        for (int i = 0; i < 10; i++) {
            Scenes.answered(x, 0, 1);
        }
        x.pass(7);
        Check.due("attempts after 19 ticks", 2, x.attempts(10));
        x.pass(1);
        Check.due("attempts after 20 ticks", 3, x.attempts(10));
    }

    private static void fourAttempts() {
        Gate x = new Gate();
        x.open(0, 1, 500, -1);
        for (int attempts = 1; attempts <= 4; attempts++) {
            Check.due("attempts", attempts, x.attempts(0));
            Check.due("frames", attempts, x.frames(0));
            Check.due("tokens", 110 - 10 * attempts, x.tokens());
            x.pass(8);
        }
        x.pass(200);
        Check.due("attempts at the end", 4, x.attempts(0));
        Check.due("frames at the end", 4, x.frames(0));
        Check.due("tokens at the end", 70, x.tokens());
        Gate once = new Gate();
        once.open(0, 1, 500, -1);
        once.pass(200);
        Check.due("attempts of 200 ticks at once", 4, once.attempts(0));
    }

    private static void receivedItems() {
        for (int items = 0; items <= 2; items++) {
            Gate x = new Gate();
            Scenes.running(x, 3, 5, 100);
            for (int i = 0; i < items; i++) {
                x.work(0);
                x.deliver(1);
            }
            x.pass(50);
            Check.due("attempts with " + items + " items", items == 0 ? 4 : 1, x.attempts(0));
            Check.due("tokens with " + items + " items", items == 0 ? 70 : 100, x.tokens());
            Check.due("outcome", -1, x.outcome(0));
        }
        Gate later = new Gate();
        Scenes.running(later, 3, 5, 100);
        later.pass(8);
        later.work(0);
        later.deliver(1);
        later.pass(50);
        Check.due("attempts with an item after the second", 2, later.attempts(0));
    }

    private static void itemsNotReceived() {
        Gate x = new Gate();
        Scenes.running(x, 3, 5, 100);
        x.work(0);
        x.pass(8);
        Check.due("attempts with an item on its way", 2, x.attempts(0));
        x.lose(1);
        x.pass(8);
        Check.due("attempts with a lost item", 3, x.attempts(0));
        Check.due("tokens", 80, x.tokens());
    }

    private static void endedCallsAreNotRepeated() {
        Gate x = new Gate();
        for (int outcome = 0; outcome <= 4; outcome++) {
            Scenes.ended(x, outcome);
        }
        x.pass(100);
        for (int call = 0; call < 5; call++) {
            Check.due("outcome", call, x.outcome(call));
            Check.due("attempts with outcome " + call, 1, x.attempts(call));
        }
        Check.due("frames", 0, x.frames(0));
        Check.due("tokens", 100, x.tokens());
    }

    private static void deadlineGoesAheadOfRepeats() {
        Gate x = new Gate();
        x.open(0, 1, 8, -1);
        x.open(0, 1, 9, -1);
        x.open(0, 1, 20, 0);
        Scenes.lostAll(x, 0);
        Check.due("pass(8)", 2, x.pass(8));
        Check.due("attempts at the deadline", 1, x.attempts(0));
        Check.due("attempts a tick ahead of the deadline", 2, x.attempts(1));
        Check.due("attempts below a deadline", 1, x.attempts(2));
        Check.due("tokens", 90, x.tokens());
    }

    private static void allMethods() {
        Gate x = new Gate();
        for (int method = 0; method <= 3; method++) {
            Scenes.worked(x, method, 0);
        }
        x.open(0, 1, 50, 0);
        x.lose(0);
        x.pass(8);
        for (int call = 0; call < 5; call++) {
            Check.due("attempts(" + call + ")", 2, x.attempts(call));
            Check.due("request", call, x.frame(0, call));
        }
        Check.due("frames", 5, x.frames(0));
    }

    private static void cancellationsAheadOfRequests() {
        Gate x = new Gate();
        x.open(0, 1, 50, -1);
        x.open(0, 1, 8, -1);
        x.open(0, 1, 50, 1);
        x.open(0, 1, 50, -1);
        Scenes.lostAll(x, 0);
        Check.due("pass(8)", 2, x.pass(8));
        Check.due("frames", 3, x.frames(0));
        Check.due("the cancellation", 102, x.frame(0, 0));
        Check.due("the first request", 0, x.frame(0, 1));
        Check.due("the second request", 3, x.frame(0, 2));
    }

    // ---- the tokens of requests that are sent again

    private static void repeatTokens() {
        Check.that("and there are at least 10 tokens: 10 are enough", ClockBoundsTest::tenTokens);
        Check.that("and there are at least 10 tokens: 9 are not", ClockBoundsTest::nineTokens);
        Check.that("by rising number, while there are tokens", ClockBoundsTest::tokensByRisingNumber);
        Check.that("a call left without tokens is sent again when there are some", ClockBoundsTest::tokensLater);
    }

    /** Twelve calls of which the first ten have been repeated, and then answered; tokens are given back by them. */
    private static Gate withTokens(int tokens) {
        Gate x = new Gate();
        for (int i = 0; i < 12; i++) {
            x.open(0, 1, 500, -1);
        }
        x.pass(8);
        Check.due("tokens after ten repeats", 0, x.tokens());
        for (int i = 0; i < tokens; i++) {
            x.deliver(0);
            x.work(i);
            x.deliver(1);
        }
        Check.due("tokens", tokens, x.tokens());
        return x;
    }

    private static void tenTokens() {
        Gate x = withTokens(10);
        x.pass(1);
        Check.due("attempts of call 10", 2, x.attempts(10));
        Check.due("attempts of call 11", 1, x.attempts(11));
        Check.due("tokens", 0, x.tokens());
    }

    private static void nineTokens() {
        Gate x = withTokens(9);
        int frames = x.frames(0);
        x.pass(1);
        Check.due("attempts of call 10", 1, x.attempts(10));
        Check.due("attempts of call 11", 1, x.attempts(11));
        Check.due("tokens", 9, x.tokens());
        Check.due("frames", frames, x.frames(0));
    }

    private static void tokensByRisingNumber() {
        Gate x = new Gate();
        for (int i = 0; i < 15; i++) {
            x.open(0, 1, 500, -1);
        }
        Scenes.lostAll(x, 0);
        x.cancel(3);
        x.lose(0);
        x.pass(8);
        Check.due("tokens", 0, x.tokens());
        Check.due("frames", 10, x.frames(0));
        for (int call = 0; call < 15; call++) {
            Check.due("attempts(" + call + ")", call == 3 || call > 10 ? 1 : 2, x.attempts(call));
        }
        for (int place = 0; place < 10; place++) {
            Check.due("request", place < 3 ? place : place + 1, x.frame(0, place));
        }
        x.pass(100);
        Check.due("frames without tokens", 10, x.frames(0));
    }

    private static void tokensLater() {
        Gate x = withTokens(9);
        x.pass(50);
        Check.due("attempts of call 10", 1, x.attempts(10));
        Scenes.lostAll(x, 0);
        Scenes.answered(x, 0, 1);
        Check.due("tokens", 10, x.tokens());
        // Call 9 is the first that is due: it was repeated once, long ago.
        x.pass(1);
        Check.due("attempts of call 9", 3, x.attempts(9));
        Check.due("attempts of call 10", 1, x.attempts(10));
        Check.due("frames", 1, x.frames(0));
        Check.due("tokens", 0, x.tokens());
    }

    // ---- the last call

    private static void lastCall() {
        Gate x = new Gate();
        x.open(1, 7, 1000, -1);
        x.deliver(0);
        x.work(0);
        x.deliver(1);
        while (x.left() > 2) {
            x.pass(200);
        }
        Check.due("the 511th call", 506 * 200, x.now());
        Check.due("the 512th call", 7, x.value(0));
        Gate y = new Gate();
        while (y.left() > 2) {
            y.pass(200);
        }
        y.open(1, 7, 1000, -1);
        Check.due("the deadline, by the 512th call", 510 * 200 + 1000, y.deadline(0));
        Gate z = new Gate();
        while (z.left() > 1) {
            z.now();
        }
        Check.stateRefused("the 512th call", () -> z.deliver(0));
    }
}
