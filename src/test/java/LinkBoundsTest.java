/** 'Terms', the link: its edges, for each kind of frame; and promises 18 to 22 where nothing is refused. */
public final class LinkBoundsTest {

    public static void main(String[] args) {
        Check.that("1: with an empty link", LinkBoundsTest::newLinkIsEmpty);
        Check.that("to the server at most 40: the request of a new call", LinkBoundsTest::newRequestAtForty);
        Check.that("to the server at most 40: a request that is sent again", LinkBoundsTest::repeatAtForty);
        Check.that("to the server at most 40: the cancellation of a call", LinkBoundsTest::cancellationAtForty);
        Check.that("to the server at most 40: the cancellations of calls below", LinkBoundsTest::cascadeAtForty);
        Check.that("to the server at most 40: the cancellation of a broken call", LinkBoundsTest::brokenAtForty);
        Check.that("to the server at most 40: a credit", LinkBoundsTest::creditAtForty);
        Check.that("to the caller at most 40: an answer", LinkBoundsTest::answerAtForty);
        Check.that("to the caller at most 40: an answer that is sent again", LinkBoundsTest::answerAgainAtForty);
        Check.that("to the caller at most 40: an item", LinkBoundsTest::itemAtForty);
        Check.that("each holds 40: one full direction leaves the other", LinkBoundsTest::directionsHoldFortyEach);
        Check.that("a direction that was full holds a frame again after deliver", () -> roomAgain(true));
        Check.that("a direction that was full holds a frame again after lose", () -> roomAgain(false));
        Check.that("in the order in which they were sent, far beyond 40: to the server", LinkBoundsTest::orderToServer);
        Check.that("in the order in which they were sent, far beyond 40: to the caller", LinkBoundsTest::orderToCaller);
        Check.that("in the order in which they were sent, full and beyond 40", LinkBoundsTest::orderWhileFull);
        Check.that("19: a lost frame does nothing, of each kind", LinkBoundsTest::lostFramesDoNothing);
        Check.that("20: frames: 0 to 40", LinkBoundsTest::framesCount);
        Check.that("21, 22: kind and value of each kind of frame", LinkBoundsTest::kindsAndValues);
        Check.end();
    }

    private static void newLinkIsEmpty() {
        Gate x = new Gate();
        for (int direction = 0; direction < 2; direction++) {
            int empty = direction;
            Check.due("frames", 0, x.frames(empty));
            Check.indexRefused("frame", () -> x.frame(empty, 0));
            Check.indexRefused("frameValue", () -> x.frameValue(empty, 0));
            Check.stateRefused("deliver", () -> x.deliver(empty));
            Check.stateRefused("lose", () -> x.lose(empty));
        }
    }

    private static void newRequestAtForty() {
        Gate x = new Gate();
        x.open(3, 5, 50, -1);
        Scenes.fillToServer(x, 0, 39);
        x.open(1, 5, 50, -1);
        Check.due("frames with a 40th", 40, x.frames(0));
        Check.due("the 40th", 1, x.frame(0, 39));
        Check.due("open with 40 frames", 2, x.open(1, 7, 50, -1));
        Check.due("frames", 40, x.frames(0));
        Check.due("the last frame", 1, x.frame(0, 39));
        Check.due("calls", 3, x.calls());
        Check.due("outcome of a call whose request was lost", -1, x.outcome(2));
        Check.due("its attempts", 1, x.attempts(2));
        Scenes.deliveredAll(x, 0);
        Check.due("task of the 40th", 1, x.task(1));
        Check.due("task of the lost one", 0, x.task(2));
    }

    private static void repeatAtForty() {
        Gate x = new Gate();
        x.open(3, 5, 100, -1);
        x.open(1, 5, 100, -1);
        x.open(1, 5, 100, -1);
        Scenes.fillToServer(x, 0, 38);
        Check.due("pass(8)", 0, x.pass(8));
        Check.due("frames", 40, x.frames(0));
        Check.due("the 39th", 0, x.frame(0, 38));
        Check.due("the 40th", 1, x.frame(0, 39));
        Check.due("attempts of call 1", 2, x.attempts(1));
        Check.due("attempts of call 2, whose request was lost", 2, x.attempts(2));
        Check.due("tokens with the lost request's", 70, x.tokens());
        Scenes.lostAll(x, 0);
        x.pass(7);
        Check.due("frames 7 ticks after the lost request", 0, x.frames(0));
        x.pass(1);
        Check.due("frames 8 ticks after the lost request", 3, x.frames(0));
    }

    private static void cancellationAtForty() {
        Gate x = new Gate();
        Scenes.running(x, 3, 5, 50);
        Scenes.running(x, 1, 5, 50);
        Scenes.running(x, 1, 5, 50);
        Scenes.fillToServer(x, 0, 39);
        x.cancel(1);
        Check.due("frames with a 40th", 40, x.frames(0));
        Check.due("the 40th", 101, x.frame(0, 39));
        Check.due("cancel with 40 frames", 1, x.cancel(2));
        Check.due("frames", 40, x.frames(0));
        Check.due("the last frame", 101, x.frame(0, 39));
        Check.due("outcome of the call whose cancellation was lost", 1, x.outcome(2));
        Scenes.deliveredAll(x, 0);
        Check.due("task with the 40th frame", 3, x.task(1));
        Check.due("task with the lost cancellation", 1, x.task(2));
    }

    private static void cascadeAtForty() {
        Gate x = new Gate();
        Scenes.running(x, 3, 5, 50);
        for (int i = 0; i < 3; i++) {
            x.open(1, 5, 50, i);
            x.deliver(0);
        }
        Scenes.fillToServer(x, 0, 38);
        Check.due("cancel of four calls", 4, x.cancel(0));
        Check.due("frames", 40, x.frames(0));
        Check.due("the 39th", 100, x.frame(0, 38));
        Check.due("the 40th", 101, x.frame(0, 39));
        for (int call = 0; call < 4; call++) {
            Check.due("outcome(" + call + ")", 1, x.outcome(call));
        }
        Scenes.deliveredAll(x, 0);
        Check.due("task with the 40th frame", 3, x.task(1));
        Check.due("task with a lost cancellation", 1, x.task(2));
        Check.due("task with the other lost cancellation", 1, x.task(3));
    }

    private static void brokenAtForty() {
        for (int held = 39; held <= 40; held++) {
            Gate x = new Gate();
            Scenes.running(x, 3, 5, 50);
            x.work(0);
            x.work(0);
            x.lose(1);
            Scenes.fillToServer(x, 0, held);
            x.deliver(1);
            Check.due("outcome with " + held + " frames", 4, x.outcome(0));
            Check.due("frames with " + held, 40, x.frames(0));
            Check.due("the 40th frame with " + held, held == 39 ? 100 : 200, x.frame(0, 39));
            Scenes.deliveredAll(x, 0);
            Check.due("task with " + held + " frames", held == 39 ? 3 : 1, x.task(0));
        }
    }

    private static void creditAtForty() {
        Gate x = new Gate();
        Scenes.running(x, 3, 5, 50);
        Scenes.fillToServer(x, 0, 39);
        x.grant(0, 7);
        Check.due("frames with a 40th", 40, x.frames(0));
        Check.due("number of the 40th", 7, x.frameValue(0, 39));
        x.grant(0, 10);
        Check.due("frames", 40, x.frames(0));
        Check.due("number of the last", 7, x.frameValue(0, 39));
        Scenes.deliveredAll(x, 0);
        Check.due("credits without the lost ones", 2 + 39 + 7, x.credits(0));
    }

    private static void answerAtForty() {
        Gate x = new Gate();
        Scenes.itemsToCaller(x, 39);
        Scenes.running(x, 1, 5, 50);
        Scenes.running(x, 1, 7, 50);
        Check.due("work with 39 frames", 2, x.work(1));
        Check.due("frames with a 40th", 40, x.frames(1));
        Check.due("the 40th", 301, x.frame(1, 39));
        Check.due("work with 40 frames", 2, x.work(2));
        Check.due("frames", 40, x.frames(1));
        Check.due("the last frame", 301, x.frame(1, 39));
        Check.due("task whose answer was lost", 2, x.task(2));
        Check.due("total with the lost answer's", 12, x.total());
        Scenes.deliveredAll(x, 1);
        Check.due("outcome with the 40th frame", 0, x.outcome(1));
        Check.due("outcome with the lost answer", -1, x.outcome(2));
    }

    private static void answerAgainAtForty() {
        Gate x = new Gate();
        Scenes.streamWithCredits(x, 1000, 42);
        Scenes.worked(x, 1, 5);
        x.lose(1);
        x.pass(16);
        Check.due("requests again, two of each call", 4, x.frames(0));
        for (int i = 0; i < 39; i++) {
            x.work(0);
        }
        x.deliver(0);
        Check.due("the first request again", 1, x.deliver(0));
        Check.due("frames with a 40th", 40, x.frames(1));
        Check.due("the 40th", 301, x.frame(1, 39));
        x.deliver(0);
        Check.due("the second request again", 1, x.deliver(0));
        Check.due("frames", 40, x.frames(1));
        Check.due("the last frame but one", 400, x.frame(1, 38));
        Check.due("the last frame", 301, x.frame(1, 39));
        Check.due("task", 2, x.task(1));
        Scenes.deliveredAll(x, 1);
        Check.due("outcome with the 40th frame", 0, x.outcome(1));
        Check.due("value", 5, x.value(1));
    }

    private static void itemAtForty() {
        Gate x = new Gate();
        Scenes.itemsToCaller(x, 39);
        Check.due("work with 39 frames", 1, x.work(0));
        Check.due("frames with a 40th", 40, x.frames(1));
        Check.due("value of the 40th", 961, x.frameValue(1, 39));
        x.grant(0, 2);
        x.deliver(0);
        Check.due("work with 40 frames", 1, x.work(0));
        Check.due("frames", 40, x.frames(1));
        Check.due("value of the last frame", 961, x.frameValue(1, 39));
        Check.due("credits without the lost item's", 1, x.credits(0));
        x.deliver(1);
        Check.due("work with 39 frames again", 1, x.work(0));
        Check.due("value of the next item", 959, x.frameValue(1, 39));
        for (int i = 0; i < 39; i++) {
            x.deliver(1);
        }
        Check.due("received ahead of the lost item", 40, x.received(0));
        Check.due("outcome ahead of the lost item", -1, x.outcome(0));
        x.deliver(1);
        Check.due("outcome with the item behind it", 4, x.outcome(0));
    }

    private static void directionsHoldFortyEach() {
        Gate x = new Gate();
        Scenes.itemsToCaller(x, 40);
        Scenes.fillToServer(x, 0, 40);
        Check.due("frames to the server", 40, x.frames(0));
        Check.due("frames to the caller", 40, x.frames(1));
        x.deliver(0);
        x.grant(0, 9);
        Check.due("number of the 40th to the server", 9, x.frameValue(0, 39));
        Check.due("frames to the caller, still", 40, x.frames(1));
        Gate one = new Gate();
        Scenes.running(one, 3, 5, 50);
        Scenes.fillToServer(one, 0, 40);
        one.work(0);
        Check.due("an item while the way to the server is full", 1, one.frames(1));
        Gate other = new Gate();
        Scenes.itemsToCaller(other, 40);
        other.open(1, 5, 50, -1);
        Check.due("a request while the way to the caller is full", 1, other.frames(0));
    }

    private static void roomAgain(boolean delivered) {
        Gate x = new Gate();
        Scenes.itemsToCaller(x, 40);
        Scenes.fillToServer(x, 0, 40);
        for (int direction = 0; direction < 2; direction++) {
            if (delivered) {
                x.deliver(direction);
            } else {
                x.lose(direction);
            }
            Check.due("frames(" + direction + ")", 39, x.frames(direction));
        }
        x.grant(0, 8);
        Check.due("frames to the server", 40, x.frames(0));
        Check.due("the last number", 8, x.frameValue(0, 39));
        x.work(0);
        Check.due("frames to the caller", 40, x.frames(1));
        Check.due("the last item", 960, x.frameValue(1, 39));
    }

    private static void orderToServer() {
        Gate x = new Gate();
        Scenes.running(x, 3, 5, 500);
        x.grant(0, 10);
        x.grant(0, 9);
        for (int i = 2; i < 125; i++) {
            x.grant(0, 10 - i % 10);
            Check.due("number at place 0", 10 - (i - 2) % 10, x.frameValue(0, 0));
            Check.due("number at place 2", 10 - i % 10, x.frameValue(0, 2));
            x.lose(0);
        }
        Check.due("frames", 2, x.frames(0));
    }

    private static void orderToCaller() {
        Gate x = new Gate();
        Scenes.streamWithCredits(x, 1000, 102);
        x.work(0);
        for (int i = 1; i < 95; i++) {
            x.work(0);
            Check.due("first item", 1001 - i, x.frameValue(1, 0));
            Check.due("second item", 1000 - i, x.frameValue(1, 1));
            x.deliver(1);
        }
        Check.due("received", 94, x.received(0));
        Check.due("outcome", -1, x.outcome(0));
    }

    private static void orderWhileFull() {
        Gate x = new Gate();
        Scenes.running(x, 3, 5, 500);
        for (int i = 0; i < 40; i++) {
            x.grant(0, 1 + i % 7);
        }
        for (int i = 40; i < 100; i++) {
            Check.due("number at place 0", 1 + (i - 40) % 7, x.frameValue(0, 0));
            Check.due("number at place 39", 1 + (i - 1) % 7, x.frameValue(0, 39));
            x.lose(0);
            x.grant(0, 1 + i % 7);
        }
        for (int place = 0; place < 40; place++) {
            Check.due("number at place " + place, 1 + (60 + place) % 7, x.frameValue(0, place));
            Check.due("frame at place " + place, 200, x.frame(0, place));
        }
        for (int i = 60; i < 100; i++) {
            Check.due("lose(0)", 0, x.lose(0));
        }
        Check.due("frames", 0, x.frames(0));
    }

    private static void lostFramesDoNothing() {
        Gate x = new Gate();
        x.open(3, 5, 50, -1);
        Check.due("a lost request", 0, x.lose(0));
        Check.due("task without its request", 0, x.task(0));
        Scenes.running(x, 3, 5, 50);
        x.grant(1, 5);
        Check.due("a lost credit", 1, x.lose(0));
        Check.due("credits", 2, x.credits(1));
        x.work(1);
        Check.due("a lost item", 1, x.lose(1));
        Check.due("received", 0, x.received(1));
        Check.due("sum", 0, x.sum(1));
        x.cancel(1);
        Check.due("a lost cancellation", 1, x.lose(0));
        Check.due("task without its cancellation", 1, x.task(1));
        Scenes.worked(x, 1, 5);
        Check.due("a lost answer", 2, x.lose(1));
        Check.due("outcome without its answer", -1, x.outcome(2));
        Check.due("tokens", 100, x.tokens());
    }

    private static void framesCount() {
        Gate x = new Gate();
        Scenes.running(x, 3, 5, 50);
        for (int held = 0; held <= 40; held++) {
            Check.due("frames(0)", held, x.frames(0));
            x.grant(0, 1);
        }
        Check.due("frames(0) at the end", 40, x.frames(0));
        Gate other = new Gate();
        Scenes.streamWithCredits(other, 1000, 42);
        for (int held = 0; held <= 40; held++) {
            Check.due("frames(1)", held, other.frames(1));
            other.work(0);
        }
        Check.due("frames(1) at the end", 40, other.frames(1));
    }

    private static void kindsAndValues() {
        Gate x = new Gate();
        Scenes.fortyCalls(x);
        Scenes.deliveredAll(x, 0);
        x.work(39);
        Check.due("answer of the last call", 339, x.frame(1, 0));
        Check.due("its value", 39 * 39, x.frameValue(1, 0));
        x.cancel(39);
        Check.due("cancellation of the last call", 139, x.frame(0, 0));
        Check.due("its value", 0, x.frameValue(0, 0));
        x.pass(8);
        Check.due("request of the first call", 0, x.frame(0, 1));
        Check.due("its value", 0, x.frameValue(0, 1));
        Gate y = new Gate();
        Scenes.running(y, 3, 1, 50);
        y.grant(0, 10);
        y.work(0);
        y.work(0);
        Check.due("credit", 200, y.frame(0, 0));
        Check.due("its number", 10, y.frameValue(0, 0));
        Check.due("item", 400, y.frame(1, 0));
        Check.due("its value", 1, y.frameValue(1, 0));
        Check.due("answer of a stream", 300, y.frame(1, 1));
        Check.due("its value", 1, y.frameValue(1, 1));
        Scenes.lostAll(y, 0);
        Scenes.worked(y, 2, 9);
        Check.due("answer of a method that fails", 301, y.frame(1, 2));
        Check.due("its value", 0, y.frameValue(1, 2));
        Scenes.worked(y, 1, -9);
        Check.due("a value below 0", -9, y.frameValue(1, 3));
    }
}
