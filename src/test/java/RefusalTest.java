/**
 * What the face refuses, promise by promise: the last value that is still taken and the first that is
 * refused, with which exception, which exception goes first, and that the refused call changes nothing.
 */
public final class RefusalTest {

    private static final int LEAST = Integer.MIN_VALUE;
    private static final int MOST = Integer.MAX_VALUE;

    private static final Twins.Scene NEW = x -> { };
    /** Ten calls, 0 to 9. */
    private static final Twins.Scene MIXED = Scenes::mixed;
    private static final Twins.Scene FORTY = Scenes::fortyCalls;

    /** A call of the face that takes the number of a call. */
    private interface OfCall {
        int ask(Gate x, int call);
    }

    public static void main(String[] args) {
        Check.that("the scene of the refusals is as told", RefusalTest::mixedScene);
        opens();
        cancelsAndGrants();
        unknownCalls();
        values();
        works();
        locals();
        links();
        Check.that("23: IllegalArgumentException if ticks is out of range", RefusalTest::passOutOfRange);
        Check.end();
    }

    private static void mixedScene() {
        Gate x = new Gate();
        MIXED.play(x);
        int[] outcomes = {0, 1, 2, 3, 4, -1, -1, -1, -1, -1};
        int[] tasks = {2, 0, 0, 2, 2, 1, 0, 2, 1, 1};
        Check.due("calls", 10, x.calls());
        for (int call = 0; call < 10; call++) {
            Check.due("outcome(" + call + ")", outcomes[call], x.outcome(call));
            Check.due("task(" + call + ")", tasks[call], x.task(call));
        }
        Check.due("frames(0)", 1, x.frames(0));
        Check.due("frames(1)", 4, x.frames(1));
        Check.due("tokens", 70, x.tokens());
    }

    // ---- open

    private static void opens() {
        Check.that("2: IndexOutOfBoundsException if parent is neither -1 nor a call", RefusalTest::openUnknownParent);
        Check.that("2: method: 0 to 3", RefusalTest::openMethod);
        Check.that("2: argument: -1000 to 1000", RefusalTest::openArgument);
        Check.that("2: timeout: 1 to 1000", RefusalTest::openTimeout);
        Check.that("2: IllegalStateException if the parent has ended", RefusalTest::openEndedParent);
        Check.that("2: IllegalStateException if there are 40 calls", RefusalTest::openFortyCalls);
        Check.that("2: there are 40 calls also when all have ended", RefusalTest::openFortyEndedCalls);
        Check.that("2: IndexOutOfBoundsException goes first", RefusalTest::openIndexFirst);
        Check.that("2: IllegalArgumentException goes before IllegalStateException", RefusalTest::openArgumentSecond);
    }

    private static void openUnknownParent() {
        for (int parent : new int[] {LEAST, -2, 10, 11, 39, 40, MOST}) {
            Twins.indexRefused("open below " + parent, MIXED, x -> x.open(0, 1, 1, parent));
        }
        for (int parent : new int[] {LEAST, -2, 0, 1, 40, MOST}) {
            Twins.indexRefused("open below " + parent + " of none", NEW, x -> x.open(0, 1, 1, parent));
        }
        Gate x = new Gate();
        Check.due("open below -1", 0, x.open(0, 1, 10, -1));
        Check.due("open below the first call", 1, x.open(0, 1, 10, 0));
        Check.due("open below the last call", 2, x.open(0, 1, 10, 1));
        Check.due("cancel of all three", 3, x.cancel(0));
    }

    private static void openMethod() {
        for (int method : new int[] {LEAST, -1, 4, MOST}) {
            Twins.argumentRefused("open of method " + method, MIXED, x -> x.open(method, 1, 1, -1));
            Twins.argumentRefused("first open of method " + method, NEW, x -> x.open(method, 1, 1, -1));
        }
        Gate x = new Gate();
        Scenes.worked(x, 0, 7);
        Check.due("answer of method 0", 49, x.frameValue(1, 0));
        Scenes.worked(x, 3, 7);
        Check.due("item of method 3", 401, x.frame(1, 1));
        Check.due("its value", 7, x.frameValue(1, 1));
    }

    private static void openArgument() {
        for (int method = 0; method <= 3; method++) {
            int asked = method;
            for (int argument : new int[] {LEAST, -1001, 1001, MOST}) {
                Twins.argumentRefused("open of method " + method + " with " + argument, MIXED,
                    x -> x.open(asked, argument, 1, -1));
            }
        }
        Gate x = new Gate();
        int[] values = {1000000, 1000000, -1000, 0, 0, 0, 0, 1000};
        for (int method = 0; method <= 3; method++) {
            Scenes.worked(x, method, -1000);
            Check.due("least argument of method " + method, values[2 * method], x.frameValue(1, 2 * method));
            Scenes.worked(x, method, 1000);
            Check.due("greatest argument of method " + method, values[2 * method + 1], x.frameValue(1, 2 * method + 1));
        }
    }

    private static void openTimeout() {
        for (int timeout : new int[] {LEAST, -1, 0, 1001, MOST}) {
            Twins.argumentRefused("open for " + timeout, MIXED, x -> x.open(0, 1, timeout, -1));
            Twins.argumentRefused("open for " + timeout + " below a call", MIXED, x -> x.open(0, 1, timeout, 5));
        }
        Gate x = new Gate();
        x.pass(3);
        Check.due("open for 1", 0, x.open(0, 1, 1, -1));
        Check.due("open for 1000", 1, x.open(0, 1, 1000, -1));
        Check.due("deadline after 1", 4, x.deadline(0));
        Check.due("deadline after 1000", 1003, x.deadline(1));
    }

    private static void openEndedParent() {
        for (int ended = 0; ended <= 4; ended++) {
            int parent = ended;
            Twins.stateRefused("open below a call with outcome " + ended, MIXED, x -> x.open(0, 1, 1, parent));
        }
        for (int parent = 5; parent <= 9; parent++) {
            Gate x = new Gate();
            MIXED.play(x);
            Check.due("open below the open call " + parent, 10, x.open(0, 1, 1, parent));
        }
    }

    private static void openFortyCalls() {
        Gate x = new Gate();
        for (int i = 0; i < 40; i++) {
            Check.due("open " + i, i, x.open(i % 4, i, 500, i - 1));
        }
        Check.due("calls", 40, x.calls());
        Twins.stateRefused("a 41st call", FORTY, y -> y.open(0, 1, 1, -1));
        Twins.stateRefused("a 41st call below a call", FORTY, y -> y.open(0, 1, 1, 39));
        Twins.stateRefused("a 41st call below an ended call", y -> {
            FORTY.play(y);
            y.cancel(39);
        }, y -> y.open(0, 1, 1, 39));
    }

    private static void openFortyEndedCalls() {
        Twins.Scene fortyEnded = x -> {
            for (int i = 0; i < 40; i++) {
                x.open(0, i, 5, -1);
            }
            x.pass(5);
            Scenes.lostAll(x, 0);
        };
        Twins.stateRefused("a 41st call when none is open", fortyEnded, x -> x.open(0, 1, 1, -1));
    }

    private static void openIndexFirst() {
        Twins.indexRefused("unknown parent and method 4", MIXED, x -> x.open(4, 1, 1, 10));
        Twins.indexRefused("unknown parent and argument 1001", MIXED, x -> x.open(0, 1001, 1, -2));
        Twins.indexRefused("unknown parent and timeout 0", MIXED, x -> x.open(0, 1, 0, 10));
        Twins.indexRefused("unknown parent and 40 calls", FORTY, x -> x.open(0, 1, 1, 40));
        Twins.indexRefused("unknown parent, method -1 and 40 calls", FORTY, x -> x.open(-1, 1, 1, -2));
    }

    private static void openArgumentSecond() {
        Twins.argumentRefused("ended parent and method 4", MIXED, x -> x.open(4, 1, 1, 0));
        Twins.argumentRefused("ended parent and argument -1001", MIXED, x -> x.open(0, -1001, 1, 1));
        Twins.argumentRefused("ended parent and timeout 1001", MIXED, x -> x.open(0, 1, 1001, 2));
        Twins.argumentRefused("40 calls and method -1", FORTY, x -> x.open(-1, 1, 1, -1));
        Twins.argumentRefused("40 calls and argument 1001", FORTY, x -> x.open(0, 1001, 1, 39));
        Twins.argumentRefused("40 calls and timeout 0", FORTY, x -> x.open(0, 1, 0, -1));
    }

    // ---- cancel and grant

    private static void cancelsAndGrants() {
        Check.that("3: IndexOutOfBoundsException if there is no such call",
            () -> unknownCall("cancel", (x, call) -> x.cancel(call)));
        Check.that("3: the first and the last call can be cancelled", RefusalTest::cancelFirstAndLast);
        Check.that("3: IllegalStateException if it has ended", RefusalTest::cancelEnded);
        Check.that("4: IndexOutOfBoundsException if there is no such call",
            () -> unknownCall("grant", (x, call) -> x.grant(call, 1)));
        Check.that("4: the first and the last call can be granted credit", RefusalTest::grantFirstAndLast);
        Check.that("4: number: 1 to 10", RefusalTest::grantNumber);
        Check.that("4: IllegalStateException if the method of the call is not 3", RefusalTest::grantOtherMethods);
        Check.that("4: IllegalStateException if it has ended", RefusalTest::grantEnded);
        Check.that("4: IndexOutOfBoundsException goes first, then IllegalArgumentException", RefusalTest::grantOrder);
    }

    private static void cancelFirstAndLast() {
        Gate x = new Gate();
        FORTY.play(x);
        Check.due("cancel(39)", 1, x.cancel(39));
        Check.due("cancel(0)", 1, x.cancel(0));
        Check.due("outcome(39)", 1, x.outcome(39));
        Check.due("outcome(0)", 1, x.outcome(0));
    }

    private static void cancelEnded() {
        for (int ended = 0; ended <= 4; ended++) {
            int call = ended;
            Twins.stateRefused("cancel of a call with outcome " + ended, MIXED, x -> x.cancel(call));
        }
        Twins.stateRefused("cancel of a call that ended below another", x -> {
            x.open(0, 1, 50, -1);
            x.open(0, 1, 50, 0);
            x.cancel(0);
        }, x -> x.cancel(1));
        for (int call = 5; call <= 9; call++) {
            Gate x = new Gate();
            MIXED.play(x);
            Check.due("cancel of the open call " + call, call == 5 ? 3 : call == 6 ? 2 : 1, x.cancel(call));
        }
    }

    private static void grantFirstAndLast() {
        Gate x = new Gate();
        for (int i = 0; i < 40; i++) {
            x.open(3, 1, 50, -1);
            x.lose(0);
        }
        x.grant(0, 4);
        x.grant(39, 5);
        Check.due("credit of the first call", 200, x.frame(0, 0));
        Check.due("credit of the last call", 239, x.frame(0, 1));
    }

    private static void grantNumber() {
        for (int number : new int[] {LEAST, -1, 0, 11, MOST}) {
            Twins.argumentRefused("grant of " + number, MIXED, x -> x.grant(5, number));
        }
        Gate x = new Gate();
        Scenes.running(x, 3, 9, 50);
        x.grant(0, 1);
        x.grant(0, 10);
        Check.due("least number", 1, x.frameValue(0, 0));
        Check.due("greatest number", 10, x.frameValue(0, 1));
        x.deliver(0);
        Check.due("credits with the least", 3, x.credits(0));
        x.deliver(0);
        Check.due("credits with the greatest", 13, x.credits(0));
    }

    private static void grantOtherMethods() {
        for (int method = 0; method <= 2; method++) {
            int other = method;
            Twins.stateRefused("grant for method " + method, x -> Scenes.running(x, other, 1, 50), x -> x.grant(0, 1));
            Twins.stateRefused("grant for an unknown task of method " + method, x -> x.open(other, 1, 50, -1),
                x -> x.grant(0, 10));
        }
        Twins.stateRefused("grant for an ended call of method 0", MIXED, x -> x.grant(0, 1));
        Gate x = new Gate();
        x.open(3, -5, 50, -1);
        x.grant(0, 1);
        Check.due("frames with a credit for a stream without items", 2, x.frames(0));
    }

    private static void grantEnded() {
        for (int outcome : new int[] {0, 1, 2, 4}) {
            Twins.stateRefused("grant for a stream with outcome " + outcome, x -> Scenes.endedStream(x, outcome),
                x -> x.grant(0, 1));
        }
        Twins.stateRefused("grant while the cancellation is on its way", x -> {
            Scenes.running(x, 3, 5, 50);
            x.cancel(0);
        }, x -> x.grant(0, 10));
        Gate x = new Gate();
        Scenes.running(x, 3, 0, 50);
        x.work(0);
        x.grant(0, 1);
        Check.due("frames with a credit for an open call with an answered task", 1, x.frames(0));
    }

    private static void grantOrder() {
        Twins.indexRefused("unknown call and number 0", MIXED, x -> x.grant(10, 0));
        Twins.indexRefused("call -1 and number 11", MIXED, x -> x.grant(-1, 11));
        Twins.argumentRefused("number 0 and method 0", MIXED, x -> x.grant(6, 0));
        Twins.argumentRefused("number 11 and an ended stream", MIXED, x -> x.grant(4, 11));
        Twins.argumentRefused("number 11 and an ended call of method 0", MIXED, x -> x.grant(0, 11));
    }

    // ---- the calls that take the number of a call

    private static void unknownCalls() {
        Check.that("6: IndexOutOfBoundsException if there is no such call",
            () -> questionOfCall("outcome", (x, call) -> x.outcome(call), -1));
        Check.that("8: IndexOutOfBoundsException if there is no such call",
            () -> questionOfCall("deadline", (x, call) -> x.deadline(call), 500));
        Check.that("9: IndexOutOfBoundsException if there is no such call",
            () -> questionOfCall("attempts", (x, call) -> x.attempts(call), 1));
        Check.that("10: IndexOutOfBoundsException if there is no such call",
            () -> questionOfCall("received", (x, call) -> x.received(call), 0));
        Check.that("11: IndexOutOfBoundsException if there is no such call",
            () -> questionOfCall("sum", (x, call) -> x.sum(call), 0));
        Check.that("14: IndexOutOfBoundsException if there is no such call",
            () -> questionOfCall("task", (x, call) -> x.task(call), 0));
        Check.that("15: IndexOutOfBoundsException if there is no such call",
            () -> questionOfCall("credits", (x, call) -> x.credits(call), 0));
    }

    /** The due answer is that for each of forty calls that have just been opened. */
    private static void questionOfCall(String name, OfCall question, int due) {
        unknownCall(name, question);
        Gate x = new Gate();
        FORTY.play(x);
        Check.due(name + "(0)", due, question.ask(x, 0));
        Check.due(name + "(39)", due, question.ask(x, 39));
    }

    private static void unknownCall(String name, OfCall question) {
        for (int call : new int[] {LEAST, -1, 0, 39, 40, MOST}) {
            Twins.indexRefused(name + "(" + call + ") of none", NEW, x -> question.ask(x, call));
        }
        for (int call : new int[] {LEAST, -1, 10, 11, 39, MOST}) {
            Twins.indexRefused(name + "(" + call + ") of ten", MIXED, x -> question.ask(x, call));
        }
        for (int call : new int[] {-1, 40, 41}) {
            Twins.indexRefused(name + "(" + call + ") of forty", FORTY, x -> question.ask(x, call));
        }
    }

    // ---- value

    private static void values() {
        Check.that("7: IndexOutOfBoundsException if there is no such call",
            () -> unknownCall("value", (x, call) -> x.value(call)));
        Check.that("7: the first and the last call have values", RefusalTest::valueFirstAndLast);
        Check.that("7: IllegalStateException if its outcome is not 0", RefusalTest::valueOtherOutcomes);
        Check.that("7: a broken stream has no value, though its answer came", RefusalTest::valueBroken);
    }

    private static void valueFirstAndLast() {
        Gate x = new Gate();
        for (int i = 0; i < 40; i++) {
            Scenes.answered(x, 0, i);
        }
        Check.due("value(0)", 0, x.value(0));
        Check.due("value(39)", 39 * 39, x.value(39));
    }

    private static void valueOtherOutcomes() {
        Gate x = new Gate();
        MIXED.play(x);
        Check.due("value with outcome 0", 9, x.value(0));
        for (int outcome = 1; outcome <= 4; outcome++) {
            int call = outcome;
            Twins.stateRefused("value with outcome " + outcome, MIXED, y -> y.value(call));
        }
        for (int open = 5; open <= 9; open++) {
            int call = open;
            Twins.stateRefused("value of the open call " + open, MIXED, y -> y.value(call));
        }
    }

    private static void valueBroken() {
        Twins.stateRefused("value after an item that was lost", x -> {
            Scenes.running(x, 3, 2, 50);
            x.work(0);
            x.work(0);
            x.lose(1);
            x.deliver(1);
        }, x -> x.value(0));
        Twins.stateRefused("value after an answer with another number", x -> Scenes.endedStream(x, Scenes.BROKEN),
            x -> x.value(0));
    }

    // ---- work

    private static void works() {
        Check.that("13: IndexOutOfBoundsException if there is no such call",
            () -> unknownCall("work", (x, call) -> x.work(call)));
        Check.that("13: the first and the last call can be worked", RefusalTest::workFirstAndLast);
        Check.that("13: IllegalStateException if the server does not know the call", RefusalTest::workUnknown);
        Check.that("13: IllegalStateException if the task has answered", RefusalTest::workAnswered);
        Check.that("13: IllegalStateException if the task is closed", RefusalTest::workClosed);
        Check.that("13: IllegalStateException if the step would send an item, and there is no credit",
            RefusalTest::workWithoutCredit);
    }

    private static void workFirstAndLast() {
        Gate x = new Gate();
        FORTY.play(x);
        Scenes.deliveredAll(x, 0);
        Check.due("work(39)", 2, x.work(39));
        Check.due("work(0)", 2, x.work(0));
    }

    private static void workUnknown() {
        Twins.stateRefused("work of a call whose request was lost", MIXED, x -> x.work(6));
        for (int method = 0; method <= 3; method++) {
            int asked = method;
            Twins.stateRefused("work ahead of the request, method " + method, x -> x.open(asked, 1, 50, -1),
                x -> x.work(0));
        }
        Twins.stateRefused("work after a request at the deadline", x -> {
            x.open(0, 1, 5, -1);
            x.pass(5);
            x.deliver(0);
        }, x -> x.work(0));
    }

    private static void workAnswered() {
        for (int method = 0; method <= 3; method++) {
            int asked = method;
            Twins.stateRefused("work of a task that has answered, method " + method, x -> Scenes.worked(x, asked, 0),
                x -> x.work(0));
        }
        Twins.stateRefused("work of a stream that has answered, with credits left", x -> {
            Scenes.streamWithCredits(x, 1, 12);
            x.work(0);
            x.work(0);
        }, x -> x.work(0));
        Twins.stateRefused("work of an answered call", MIXED, x -> x.work(0));
        Twins.stateRefused("work of a failed call", MIXED, x -> x.work(3));
    }

    private static void workClosed() {
        Twins.stateRefused("work of a task that a cancellation closed", x -> {
            Scenes.running(x, 1, 1, 50);
            x.cancel(0);
            x.deliver(0);
        }, x -> x.work(0));
        Twins.stateRefused("work of a task that was closed at its deadline", x -> {
            Scenes.running(x, 3, 5, 5);
            x.pass(5);
        }, x -> x.work(0));
        Twins.stateRefused("work of a task that was closed ahead of its request", x -> {
            x.open(0, 1, 50, -1);
            x.cancel(0);
            x.lose(0);
            x.deliver(0);
        }, x -> x.work(0));
    }

    private static void workWithoutCredit() {
        Gate x = new Gate();
        Scenes.running(x, 3, 3, 50);
        x.work(0);
        Check.due("the step with the last credit", 1, x.work(0));
        Check.due("credits", 0, x.credits(0));
        Twins.stateRefused("the step after it", y -> {
            Scenes.running(y, 3, 3, 50);
            y.work(0);
            y.work(0);
        }, y -> y.work(0));
        Twins.stateRefused("the step while the credit is on its way", y -> {
            Scenes.running(y, 3, 3, 50);
            y.work(0);
            y.work(0);
            y.grant(0, 1);
        }, y -> y.work(0));
        Twins.stateRefused("the step of the stream in the mixed scene", MIXED, y -> y.work(9));
    }

    // ---- local

    private static void locals() {
        Check.that("17: method: 0 to 3", RefusalTest::localMethod);
        Check.that("17: argument: -1000 to 1000", RefusalTest::localArgument);
        Check.that("17: IllegalStateException if the method fails", RefusalTest::localFails);
        Check.that("17: IllegalArgumentException goes before IllegalStateException", RefusalTest::localOrder);
        Check.that("17: nothing changes", RefusalTest::localChangesNothing);
    }

    private static void localMethod() {
        for (int method : new int[] {LEAST, -1, 4, MOST}) {
            Twins.argumentRefused("local of method " + method, MIXED, x -> x.local(method, 1));
        }
        Gate x = new Gate();
        Check.due("local of method 0", 49, x.local(0, 7));
        Check.due("local of method 3", 7, x.local(3, 7));
    }

    private static void localArgument() {
        for (int method = 0; method <= 3; method++) {
            int asked = method;
            for (int argument : new int[] {LEAST, -1001, 1001, MOST}) {
                Twins.argumentRefused("local(" + method + ", " + argument + ")", MIXED, x -> x.local(asked, argument));
            }
        }
        Gate x = new Gate();
        Check.due("local(0, -1000)", 1000000, x.local(0, -1000));
        Check.due("local(0, 1000)", 1000000, x.local(0, 1000));
        Check.due("local(1, -1000)", -1000, x.local(1, -1000));
        Check.due("local(1, 1000)", 1000, x.local(1, 1000));
        Check.due("local(3, -1000)", 0, x.local(3, -1000));
        Check.due("local(3, 1000)", 1000, x.local(3, 1000));
    }

    private static void localFails() {
        for (int argument : new int[] {-1000, -1, 0, 1, 1000}) {
            Twins.stateRefused("local(2, " + argument + ")", MIXED, x -> x.local(2, argument));
        }
        Twins.stateRefused("local(2, 0) of a new object", NEW, x -> x.local(2, 0));
    }

    private static void localOrder() {
        Twins.argumentRefused("local(2, 1001)", MIXED, x -> x.local(2, 1001));
        Twins.argumentRefused("local(2, -1001)", MIXED, x -> x.local(2, -1001));
    }

    private static void localChangesNothing() {
        for (int method : new int[] {0, 1, 3}) {
            for (int argument : new int[] {-1000, 0, 1, 1000}) {
                Twins.changesNothing("local(" + method + ", " + argument + ")", MIXED, x -> x.local(method, argument));
                Twins.changesNothing("first local(" + method + ", " + argument + ")", NEW,
                    x -> x.local(method, argument));
            }
        }
    }

    // ---- the link and the clock

    private static void links() {
        Check.that("18: IllegalArgumentException if direction is out of range",
            () -> directionOutOfRange("deliver", (x, direction) -> x.deliver(direction)));
        Check.that("18: IllegalStateException if there is no frame",
            () -> noFrame("deliver", (x, direction) -> x.deliver(direction)));
        Check.that("19: IllegalArgumentException if direction is out of range",
            () -> directionOutOfRange("lose", (x, direction) -> x.lose(direction)));
        Check.that("19: IllegalStateException if there is no frame",
            () -> noFrame("lose", (x, direction) -> x.lose(direction)));
        Check.that("20: IllegalArgumentException if direction is out of range",
            () -> directionOutOfRange("frames", (x, direction) -> x.frames(direction)));
        Check.that("21: IllegalArgumentException if direction is out of range",
            () -> directionOutOfRange("frame(.., 0)", (x, direction) -> x.frame(direction, 0)));
        Check.that("21: IndexOutOfBoundsException if direction is in range, and there is no such frame",
            () -> noSuchFrame("frame", (x, place) -> x.frame(0, place), (x, place) -> x.frame(1, place)));
        Check.that("21: a direction out of range goes before a place out of range",
            () -> directionOutOfRange("frame(.., -1)", (x, direction) -> x.frame(direction, -1)));
        Check.that("22: IllegalArgumentException if direction is out of range",
            () -> directionOutOfRange("frameValue(.., 0)", (x, direction) -> x.frameValue(direction, 0)));
        Check.that("22: IndexOutOfBoundsException if direction is in range, and there is no such frame",
            () -> noSuchFrame("frameValue", (x, place) -> x.frameValue(0, place),
                (x, place) -> x.frameValue(1, place)));
        Check.that("22: a direction out of range goes before a place out of range",
            () -> directionOutOfRange("frameValue(.., 40)", (x, direction) -> x.frameValue(direction, 40)));
        Check.that("21, 22: the first and the last place are frames", RefusalTest::firstAndLastPlace);
    }

    private static void directionOutOfRange(String name, OfCall question) {
        for (int direction : new int[] {LEAST, -1, 2, MOST}) {
            Twins.argumentRefused(name + " of direction " + direction, MIXED, x -> question.ask(x, direction));
            Twins.argumentRefused(name + " of direction " + direction + " of none", NEW,
                x -> question.ask(x, direction));
        }
    }

    private static void noFrame(String name, OfCall question) {
        Twins.stateRefused(name + "(0) of none", NEW, x -> question.ask(x, 0));
        Twins.stateRefused(name + "(1) of none", NEW, x -> question.ask(x, 1));
        Twins.stateRefused(name + "(1) while 0 holds frames", x -> x.open(1, 5, 50, -1), x -> question.ask(x, 1));
        Twins.stateRefused(name + "(0) while 1 holds frames", x -> Scenes.worked(x, 1, 5), x -> question.ask(x, 0));
        Twins.stateRefused(name + "(0) after the last frame", x -> {
            x.open(1, 5, 50, -1);
            x.open(1, 5, 50, -1);
            Check.due(name + " of the last frame but one", 0, question.ask(x, 0));
            Check.due(name + " of the last frame", 1, question.ask(x, 0));
        }, x -> question.ask(x, 0));
        Twins.stateRefused(name + "(1) after the last frame", x -> {
            Scenes.worked(x, 1, 5);
            Check.due(name + " of the last frame", 0, question.ask(x, 1));
        }, x -> question.ask(x, 1));
    }

    private static void noSuchFrame(String name, OfCall toServer, OfCall toCaller) {
        for (int place : new int[] {LEAST, -1, 0, 1, MOST}) {
            Twins.indexRefused(name + "(0, " + place + ") of none", NEW, x -> toServer.ask(x, place));
            Twins.indexRefused(name + "(1, " + place + ") of none", NEW, x -> toCaller.ask(x, place));
        }
        for (int place : new int[] {LEAST, -1, 1, 2, 39, 40, MOST}) {
            Twins.indexRefused(name + "(0, " + place + ") of one", MIXED, x -> toServer.ask(x, place));
        }
        for (int place : new int[] {LEAST, -1, 4, 5, 39, 40, MOST}) {
            Twins.indexRefused(name + "(1, " + place + ") of four", MIXED, x -> toCaller.ask(x, place));
        }
        for (int place : new int[] {-1, 40, 41}) {
            Twins.indexRefused(name + "(0, " + place + ") of forty", FORTY, x -> toServer.ask(x, place));
        }
    }

    private static void firstAndLastPlace() {
        Gate x = new Gate();
        MIXED.play(x);
        Check.due("frame(0, 0) of one", 205, x.frame(0, 0));
        Check.due("frameValue(0, 0) of one", 7, x.frameValue(0, 0));
        Check.due("frame(1, 3) of four", 307, x.frame(1, 3));
        Check.due("frameValue(1, 3) of four", 7, x.frameValue(1, 3));
        Gate forty = new Gate();
        forty.open(3, 5, 50, -1);
        for (int i = 0; i < 39; i++) {
            forty.grant(0, 1 + i % 10);
        }
        Check.due("frame(0, 0)", 0, forty.frame(0, 0));
        Check.due("frameValue(0, 0)", 0, forty.frameValue(0, 0));
        Check.due("frame(0, 39)", 200, forty.frame(0, 39));
        Check.due("frameValue(0, 39)", 9, forty.frameValue(0, 39));
    }

    private static void passOutOfRange() {
        for (int ticks : new int[] {LEAST, -1, 0, 201, MOST}) {
            Twins.argumentRefused("pass(" + ticks + ")", MIXED, x -> x.pass(ticks));
            Twins.argumentRefused("pass(" + ticks + ") of a new object", NEW, x -> x.pass(ticks));
        }
        Gate x = new Gate();
        x.open(0, 1, 201, -1);
        Check.due("pass(1)", 0, x.pass(1));
        Check.due("now", 1, x.now());
        Check.due("pass(200)", 1, x.pass(200));
        Check.due("now", 201, x.now());
    }
}
