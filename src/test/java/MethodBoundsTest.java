/** 'Terms', the methods: their edges, by the link and by local; and promises 16 and 17. */
public final class MethodBoundsTest {

    private static final int[] ARGUMENTS = {-1000, -999, -2, -1, 0, 1, 2, 999, 1000};

    public static void main(String[] args) {
        Check.that("method 0 answers the square of the argument", MethodBoundsTest::squares);
        Check.that("method 1 adds the argument to the total, which is 0 at first", MethodBoundsTest::addsFromZero);
        Check.that("method 1 adds an argument below 0, and 0", MethodBoundsTest::addsBelowZero);
        Check.that("method 1 adds when it is worked, not when it is asked or answered", MethodBoundsTest::addsWhenWorked);
        Check.that("16: the total goes to 40000 and to -40000", MethodBoundsTest::greatestTotals);
        Check.that("16: no other method changes the total", MethodBoundsTest::othersLeaveTheTotal);
        Check.that("method 2 always fails", MethodBoundsTest::alwaysFails);
        Check.that("method 3 has no items if the argument is 0 or less", MethodBoundsTest::noItems);
        Check.that("method 3 has items from the argument down to 1", MethodBoundsTest::itemsDownToOne);
        Check.that("method 3 has the indexes 0, 1, and so on", MethodBoundsTest::indexesFromZero);
        Check.that("method 3 with the argument 1 has one item", MethodBoundsTest::oneItem);
        Check.that("method 3 sends as many items as a run can work for", MethodBoundsTest::longStream);
        Check.that("17: what a method would answer now, as it answers by the link", MethodBoundsTest::localLikeTheLink);
        Check.that("17: local of method 1 goes by the total as it is now", MethodBoundsTest::localGoesByTheTotal);
        Check.end();
    }

    private static void squares() {
        int[] values = {1000000, 998001, 4, 1, 0, 1, 4, 998001, 1000000};
        Gate x = new Gate();
        for (int i = 0; i < ARGUMENTS.length; i++) {
            Check.due("call", i, Scenes.answered(x, 0, ARGUMENTS[i]));
            Check.due("square of " + ARGUMENTS[i], values[i], x.value(i));
        }
    }

    private static void addsFromZero() {
        Gate x = new Gate();
        Check.due("first total", 0, x.total());
        Scenes.answered(x, 1, 0);
        Check.due("total with 0 added", 0, x.total());
        Check.due("value", 0, x.value(0));
        Scenes.answered(x, 1, 1);
        Check.due("total with 1 added", 1, x.total());
        Check.due("value", 1, x.value(1));
        Check.due("total of another object", 0, new Gate().total());
    }

    private static void addsBelowZero() {
        Gate x = new Gate();
        int[] added = {1, -1, -1, 0, -1000, 1000, 1000};
        int[] totals = {1, 0, -1, -1, -1001, -1, 999};
        for (int i = 0; i < added.length; i++) {
            Scenes.answered(x, 1, added[i]);
            Check.due("total with " + added[i] + " added", totals[i], x.total());
            Check.due("value", totals[i], x.value(i));
        }
    }

    private static void addsWhenWorked() {
        Gate x = new Gate();
        x.open(1, 5, 50, -1);
        x.open(1, 7, 50, -1);
        Scenes.deliveredAll(x, 0);
        Check.due("total ahead of the work", 0, x.total());
        x.work(1);
        Check.due("total with the second call's work", 7, x.total());
        x.work(0);
        Check.due("total with both", 12, x.total());
        Scenes.deliveredAll(x, 1);
        Check.due("total with the answers come", 12, x.total());
        Check.due("value of the call worked first", 7, x.value(1));
        Check.due("value of the call worked last", 12, x.value(0));
    }

    private static void greatestTotals() {
        for (int sign = -1; sign <= 1; sign += 2) {
            Gate x = new Gate();
            for (int i = 1; i <= 40; i++) {
                Scenes.answered(x, 1, 1000 * sign);
                Check.due("total", 1000 * sign * i, x.total());
            }
            Check.due("value of the last call", 40000 * sign, x.value(39));
            Check.due("local at the end", 41000 * sign, x.local(1, 1000 * sign));
        }
    }

    private static void othersLeaveTheTotal() {
        Gate x = new Gate();
        Scenes.answered(x, 1, 3);
        Scenes.answered(x, 0, 9);
        Scenes.answered(x, 2, 9);
        Scenes.running(x, 3, 1, 50);
        x.work(3);
        x.work(3);
        Check.due("total", 3, x.total());
    }

    private static void alwaysFails() {
        Gate x = new Gate();
        for (int i = 0; i < ARGUMENTS.length; i++) {
            int argument = ARGUMENTS[i];
            Scenes.running(x, 2, argument, 50);
            Check.due("work with " + argument, 2, x.work(i));
            Check.due("value of the answer", 0, x.frameValue(1, 0));
            x.deliver(1);
            Check.due("outcome with " + argument, 3, x.outcome(i));
            Check.stateRefused("local(2, " + argument + ")", () -> x.local(2, argument));
        }
    }

    private static void noItems() {
        for (int argument : new int[] {-1000, -1, 0}) {
            Gate x = new Gate();
            Scenes.running(x, 3, argument, 50);
            Check.due("the only step with " + argument, 2, x.work(0));
            Check.due("credits", 2, x.credits(0));
            Check.due("frames", 1, x.frames(1));
            Check.due("the answer", 300, x.frame(1, 0));
            Check.due("its value", 0, x.frameValue(1, 0));
            x.deliver(1);
            Check.due("outcome", 0, x.outcome(0));
            Check.due("value", 0, x.value(0));
            Check.due("received", 0, x.received(0));
        }
    }

    private static void itemsDownToOne() {
        Gate x = new Gate();
        Scenes.streamWithCredits(x, 7, 7);
        for (int item = 7; item >= 1; item--) {
            Check.due("step for " + item, 1, x.work(0));
            Check.due("frame of " + item, 400, x.frame(1, 7 - item));
            Check.due("item", item, x.frameValue(1, 7 - item));
        }
        Check.due("step for the answer", 2, x.work(0));
        Check.due("value of the answer", 7, x.frameValue(1, 7));
    }

    /** The indexes are not told, but each must be the number received so far. */
    private static void indexesFromZero() {
        Gate x = new Gate();
        Scenes.streamWithCredits(x, 5, 5);
        for (int i = 0; i < 5; i++) {
            x.work(0);
            x.deliver(1);
            Check.due("received", i + 1, x.received(0));
            Check.due("outcome", -1, x.outcome(0));
        }
        x.work(0);
        x.deliver(1);
        Check.due("outcome with the answer", 0, x.outcome(0));
        Check.due("value", 5, x.value(0));
        Check.due("sum", 15, x.sum(0));
    }

    private static void oneItem() {
        Gate x = new Gate();
        Scenes.running(x, 3, 1, 50);
        Check.due("first step", 1, x.work(0));
        Check.due("second step", 2, x.work(0));
        Check.due("item", 1, x.frameValue(1, 0));
        Check.due("frame of the answer", 300, x.frame(1, 1));
        Check.due("value of the answer", 1, x.frameValue(1, 1));
        Check.due("credits", 1, x.credits(0));
        Scenes.deliveredAll(x, 1);
        Check.due("value", 1, x.value(0));
        Check.due("sum", 1, x.sum(0));
    }

    private static void longStream() {
        Gate x = new Gate();
        Scenes.streamWithCredits(x, 200, 200);
        for (int i = 0; i < 200; i++) {
            x.work(0);
            x.deliver(1);
        }
        Check.due("received", 200, x.received(0));
        Check.due("sum", 200 * 201 / 2, x.sum(0));
        Check.due("credits", 0, x.credits(0));
        Check.due("step for the answer", 2, x.work(0));
        x.deliver(1);
        Check.due("outcome", 0, x.outcome(0));
        Check.due("value", 200, x.value(0));
        Gate greatest = new Gate();
        Scenes.streamWithCredits(greatest, 1000, 200);
        for (int i = 0; i < 200; i++) {
            greatest.work(0);
            greatest.deliver(1);
        }
        Check.due("sum of the items 1000 to 801", 180100, greatest.sum(0));
    }

    private static void localLikeTheLink() {
        Gate x = new Gate();
        Scenes.answered(x, 1, 77);
        for (int argument : ARGUMENTS) {
            int square = x.local(0, argument);
            int call = Scenes.answered(x, 0, argument);
            Check.due("square of " + argument, x.value(call), square);
            int added = x.local(1, argument);
            call = Scenes.answered(x, 1, argument);
            Check.due("total with " + argument, x.value(call), added);
            Check.due("items of " + argument, Math.max(0, argument), x.local(3, argument));
        }
    }

    private static void localGoesByTheTotal() {
        Gate x = new Gate();
        Check.due("local(1, 8) at first", 8, x.local(1, 8));
        Check.due("local(1, 8) once more", 8, x.local(1, 8));
        Scenes.running(x, 1, 30, 50);
        Check.due("local(1, -8) ahead of the work", -8, x.local(1, -8));
        x.work(0);
        Check.due("local(1, -8) after the work", 22, x.local(1, -8));
        Check.due("local(1, 0)", 30, x.local(1, 0));
        Check.due("total", 30, x.total());
    }
}
