/** A remote call layer with both of its ends and the link between them. */
public final class Callgate {

    private static final int MOST_CALLS = 40;
    private static final int MOST_FRAMES = 40;
    private static final int MOST_ARGUMENT = 1000;
    private static final int MOST_TIMEOUT = 1000;
    private static final int MOST_GRANTED = 10;
    private static final int MOST_TICKS = 200;
    private static final int MOST_TOKENS = 100;
    private static final int MOST_ATTEMPTS = 4;
    private static final int REPEAT_COST = 10;
    private static final int REPEAT_WAIT = 8;
    private static final int FIRST_CREDITS = 2;

    private static final int NO_PARENT = -1;

    private static final int TO_SERVER = 0;
    private static final int TO_CALLER = 1;

    private static final int SQUARE = 0;
    private static final int ADD = 1;
    private static final int FAIL = 2;
    private static final int STREAM = 3;

    private static final int REQUEST = 0;
    private static final int CANCELLATION = 1;
    private static final int CREDIT = 2;
    private static final int ANSWER = 3;
    private static final int ITEM = 4;

    private static final int OPEN = -1;
    private static final int ANSWERED = 0;
    private static final int CANCELLED = 1;
    private static final int DEADLINE_REACHED = 2;
    private static final int FAILED = 3;
    private static final int BROKEN = 4;

    private static final int TASK_UNKNOWN = 0;
    private static final int TASK_RUNNING = 1;
    private static final int TASK_ANSWERED = 2;
    private static final int TASK_CLOSED = 3;

    private final Book book;
    private final Lane toServer;
    private final Lane toCaller;
    private final Caller caller;
    private final Server server;
    private int time;

    public Callgate() {
        book = new Book();
        toServer = new Lane();
        toCaller = new Lane();
        caller = new Caller(book, toServer);
        server = new Server(book, toCaller);
    }

    // ---- the caller

    public int open(int method, int argument, int timeout, int parent)
            throws IndexOutOfBoundsException, IllegalArgumentException, IllegalStateException {
        if (parent != NO_PARENT) {
            needCall(parent);
        }
        needMethodAndArgument(method, argument);
        if (timeout < 1 || timeout > MOST_TIMEOUT) {
            throw new IllegalArgumentException("the timeout is 1 to 1000");
        }
        if (parent != NO_PARENT) {
            needOpenCall(parent);
        }
        if (book.isFull()) {
            throw new IllegalStateException("there are 40 calls");
        }
        int end = time + timeout;
        if (parent != NO_PARENT) {
            end = Math.min(end, book.deadlines[parent]);
        }
        int call = book.enter(method, argument, end);
        caller.begin(call, parent, time);
        return call;
    }

    public int cancel(int call) throws IndexOutOfBoundsException, IllegalStateException {
        needCall(call);
        needOpenCall(call);
        return caller.endAndTell(call, CANCELLED);
    }

    public void grant(int call, int number)
            throws IndexOutOfBoundsException, IllegalArgumentException, IllegalStateException {
        needCall(call);
        if (number < 1 || number > MOST_GRANTED) {
            throw new IllegalArgumentException("the number is 1 to 10");
        }
        if (book.methods[call] != STREAM) {
            throw new IllegalStateException("the call is no stream");
        }
        needOpenCall(call);
        toServer.send(CREDIT, call, 0, number);
    }

    public int calls() {
        return book.size;
    }

    public int outcome(int call) throws IndexOutOfBoundsException {
        needCall(call);
        return caller.outcomes[call];
    }

    public int value(int call) throws IndexOutOfBoundsException, IllegalStateException {
        needCall(call);
        if (caller.outcomes[call] != ANSWERED) {
            throw new IllegalStateException("the call has not ended as answered");
        }
        return caller.values[call];
    }

    public int deadline(int call) throws IndexOutOfBoundsException {
        needCall(call);
        return book.deadlines[call];
    }

    public int attempts(int call) throws IndexOutOfBoundsException {
        needCall(call);
        return caller.requestsSent[call];
    }

    public int received(int call) throws IndexOutOfBoundsException {
        needCall(call);
        return caller.itemsReceived[call];
    }

    public int sum(int call) throws IndexOutOfBoundsException {
        needCall(call);
        return caller.sums[call];
    }

    public int tokens() {
        return caller.budget;
    }

    // ---- the server

    public int work(int call) throws IndexOutOfBoundsException, IllegalStateException {
        needCall(call);
        if (server.states[call] != TASK_RUNNING) {
            throw new IllegalStateException("the server has no running task for the call");
        }
        if (server.isItemNext(call) && server.creditsLeft[call] < 1) {
            throw new IllegalStateException("there is no credit for the next item");
        }
        server.step(call);
        return server.states[call];
    }

    public int task(int call) throws IndexOutOfBoundsException {
        needCall(call);
        return server.states[call];
    }

    public int credits(int call) throws IndexOutOfBoundsException {
        needCall(call);
        return server.creditsLeft[call];
    }

    public int total() {
        return server.added;
    }

    public int local(int method, int argument) throws IllegalArgumentException, IllegalStateException {
        needMethodAndArgument(method, argument);
        if (method == FAIL) {
            throw new IllegalStateException("the method fails");
        }
        return server.answerOf(method, argument);
    }

    // ---- the link and the clock

    public int deliver(int direction) throws IllegalArgumentException, IllegalStateException {
        needDirection(direction);
        Lane lane = laneOf(direction);
        needAnyFrame(lane);
        int slot = lane.slotOf(0);
        int kind = lane.kinds[slot];
        int call = lane.owners[slot];
        int mark = lane.marks[slot];
        int carried = lane.values[slot];
        lane.removeFirst();
        // Only calls of the book send frames; still, the number is an index from here on.
        if (!book.has(call)) {
            return call;
        }
        if (direction == TO_SERVER) {
            server.take(kind, call, carried, time);
        } else {
            caller.take(kind, call, mark, carried);
        }
        return call;
    }

    public int lose(int direction) throws IllegalArgumentException, IllegalStateException {
        needDirection(direction);
        Lane lane = laneOf(direction);
        needAnyFrame(lane);
        int call = lane.owners[lane.slotOf(0)];
        lane.removeFirst();
        return call;
    }

    public int frames(int direction) throws IllegalArgumentException {
        needDirection(direction);
        return laneOf(direction).size;
    }

    public int frame(int direction, int place) throws IndexOutOfBoundsException, IllegalArgumentException {
        needDirection(direction);
        Lane lane = laneOf(direction);
        needFrame(lane, place);
        int slot = lane.slotOf(place);
        return 100 * lane.kinds[slot] + lane.owners[slot];
    }

    public int frameValue(int direction, int place) throws IndexOutOfBoundsException, IllegalArgumentException {
        needDirection(direction);
        Lane lane = laneOf(direction);
        needFrame(lane, place);
        return lane.values[lane.slotOf(place)];
    }

    public int pass(int ticks) throws IllegalArgumentException {
        if (ticks < 1 || ticks > MOST_TICKS) {
            throw new IllegalArgumentException("the ticks are 1 to 200");
        }
        int ended = 0;
        for (int i = 0; i < ticks; i++) {
            time++;
            ended += caller.endDueCalls(time);
            server.closeDueTasks(time);
            caller.repeatRequests(time);
        }
        return ended;
    }

    public int now() {
        return time;
    }

    // ---- what the calls above need of their arguments

    private Lane laneOf(int direction) {
        return direction == TO_SERVER ? toServer : toCaller;
    }

    private void needCall(int call) {
        if (!book.has(call)) {
            throw new IndexOutOfBoundsException("there is no such call");
        }
    }

    private void needOpenCall(int call) {
        if (caller.outcomes[call] != OPEN) {
            throw new IllegalStateException("the call has ended");
        }
    }

    private static void needMethodAndArgument(int method, int argument) {
        if (method < SQUARE || method > STREAM) {
            throw new IllegalArgumentException("the method is 0 to 3");
        }
        if (argument < -MOST_ARGUMENT || argument > MOST_ARGUMENT) {
            throw new IllegalArgumentException("the argument is -1000 to 1000");
        }
    }

    private static void needDirection(int direction) {
        if (direction != TO_SERVER && direction != TO_CALLER) {
            throw new IllegalArgumentException("the direction is 0 or 1");
        }
    }

    private static void needAnyFrame(Lane lane) {
        if (!lane.has(0)) {
            throw new IllegalStateException("there is no frame");
        }
    }

    private static void needFrame(Lane lane, int place) {
        if (!lane.has(place)) {
            throw new IndexOutOfBoundsException("there is no such frame");
        }
    }

    /** What was asked with each call. Both ends read it, since a request would carry it. */
    private static final class Book {
        private final int[] methods = new int[MOST_CALLS];
        private final int[] arguments = new int[MOST_CALLS];
        private final int[] deadlines = new int[MOST_CALLS];
        private int size;

        private boolean has(int call) {
            return call >= 0 && call < size;
        }

        private boolean isFull() {
            return size >= MOST_CALLS;
        }

        /** Enters a call in a book that is not full, and answers its number. */
        private int enter(int method, int argument, int end) {
            int call = size;
            methods[call] = method;
            arguments[call] = argument;
            deadlines[call] = end;
            size++;
            return call;
        }

        private boolean isDue(int call, int time) {
            return deadlines[call] <= time;
        }
    }

    /** One direction of the link: a ring of slots, so that taking the first frame moves no other. */
    private static final class Lane {
        private final int[] kinds = new int[MOST_FRAMES];
        private final int[] owners = new int[MOST_FRAMES];
        /** The result of an answer, or the index of an item. */
        private final int[] marks = new int[MOST_FRAMES];
        private final int[] values = new int[MOST_FRAMES];
        private int first;
        private int size;

        private boolean has(int place) {
            return place >= 0 && place < size;
        }

        private int slotOf(int place) {
            return Math.floorMod(first + place, MOST_FRAMES);
        }

        private void send(int kind, int owner, int mark, int carried) {
            if (size >= MOST_FRAMES) {
                return;
            }
            int slot = slotOf(size);
            kinds[slot] = kind;
            owners[slot] = owner;
            marks[slot] = mark;
            values[slot] = carried;
            size++;
        }

        private void removeFirst() {
            first = slotOf(1);
            size--;
        }
    }

    /** The end that opens calls and waits for their answers. */
    private static final class Caller {
        private final Book book;
        private final Lane toServer;
        private final int[] parents = new int[MOST_CALLS];
        private final int[] outcomes = new int[MOST_CALLS];
        private final int[] values = new int[MOST_CALLS];
        private final int[] requestsSent = new int[MOST_CALLS];
        private final int[] latestRequest = new int[MOST_CALLS];
        private final int[] itemsReceived = new int[MOST_CALLS];
        private final int[] sums = new int[MOST_CALLS];
        private int budget = MOST_TOKENS;

        private Caller(Book book, Lane toServer) {
            this.book = book;
            this.toServer = toServer;
        }

        private void begin(int call, int parent, int time) {
            parents[call] = parent;
            outcomes[call] = OPEN;
            sendRequest(call, time);
        }

        private void sendRequest(int call, int time) {
            requestsSent[call]++;
            latestRequest[call] = time;
            toServer.send(REQUEST, call, 0, 0);
        }

        /** Ends a call without a word to the server about the call itself; answers how many calls end. */
        private int endSilently(int call, int outcome) {
            outcomes[call] = outcome;
            return 1 + cancelOrphans(call);
        }

        /** Ends a call and sends a cancellation for it; answers how many calls end. */
        private int endAndTell(int call, int outcome) {
            outcomes[call] = outcome;
            toServer.send(CANCELLATION, call, 0, 0);
            return 1 + cancelOrphans(call);
        }

        /**
         * Cancels all open calls below a call that has just ended.
         * Before it ended no open call had an ended parent, and a parent's number is
         * smaller than its child's, so one walk upwards finds those below, in their order.
         */
        private int cancelOrphans(int ended) {
            int cancelled = 0;
            for (int call = ended + 1; call < book.size; call++) {
                if (outcomes[call] == OPEN && hasEndedParent(call)) {
                    outcomes[call] = CANCELLED;
                    toServer.send(CANCELLATION, call, 0, 0);
                    cancelled++;
                }
            }
            return cancelled;
        }

        private boolean hasEndedParent(int call) {
            int parent = parents[call];
            return book.has(parent) && outcomes[parent] != OPEN;
        }

        private void take(int kind, int call, int mark, int carried) {
            if (outcomes[call] != OPEN) {
                return;
            }
            if (kind == ANSWER) {
                takeAnswer(call, mark, carried);
            } else {
                takeItem(call, mark, carried);
            }
        }

        private void takeAnswer(int call, int result, int carried) {
            if (book.methods[call] == STREAM && carried != itemsReceived[call]) {
                endSilently(call, BROKEN);
                return;
            }
            values[call] = carried;
            endSilently(call, result);
            if (result == ANSWERED) {
                budget = Math.min(budget + 1, MOST_TOKENS);
            }
        }

        private void takeItem(int call, int index, int carried) {
            if (index != itemsReceived[call]) {
                endAndTell(call, BROKEN);
                return;
            }
            itemsReceived[call]++;
            sums[call] += carried;
        }

        /** Answers how many calls end. */
        private int endDueCalls(int time) {
            int ended = 0;
            for (int call = 0; call < book.size; call++) {
                if (outcomes[call] == OPEN && book.isDue(call, time)) {
                    ended += endSilently(call, DEADLINE_REACHED);
                }
            }
            return ended;
        }

        private void repeatRequests(int time) {
            for (int call = 0; call < book.size; call++) {
                if (isRepeatDue(call, time) && budget >= REPEAT_COST) {
                    budget -= REPEAT_COST;
                    sendRequest(call, time);
                }
            }
        }

        private boolean isRepeatDue(int call, int time) {
            return outcomes[call] == OPEN
                    && itemsReceived[call] == 0
                    && requestsSent[call] < MOST_ATTEMPTS
                    && time - latestRequest[call] >= REPEAT_WAIT;
        }
    }

    /** The end that works for calls and answers each of them once. */
    private static final class Server {
        private final Book book;
        private final Lane toCaller;
        private final int[] states = new int[MOST_CALLS];
        private final int[] creditsLeft = new int[MOST_CALLS];
        private final int[] itemsSent = new int[MOST_CALLS];
        private final int[] results = new int[MOST_CALLS];
        private final int[] values = new int[MOST_CALLS];
        private int added;

        private Server(Book book, Lane toCaller) {
            this.book = book;
            this.toCaller = toCaller;
        }

        private void take(int kind, int call, int number, int time) {
            if (kind == REQUEST) {
                takeRequest(call, time);
            } else if (kind == CANCELLATION) {
                takeCancellation(call);
            } else if (states[call] == TASK_RUNNING) {
                creditsLeft[call] += number;
            }
        }

        private void takeRequest(int call, int time) {
            if (states[call] == TASK_ANSWERED) {
                sendAnswer(call);
            } else if (states[call] == TASK_UNKNOWN && !book.isDue(call, time)) {
                states[call] = TASK_RUNNING;
                creditsLeft[call] = FIRST_CREDITS;
            }
        }

        private void takeCancellation(int call) {
            if (states[call] != TASK_ANSWERED) {
                states[call] = TASK_CLOSED;
            }
        }

        private void closeDueTasks(int time) {
            for (int call = 0; call < book.size; call++) {
                if (states[call] == TASK_RUNNING && book.isDue(call, time)) {
                    states[call] = TASK_CLOSED;
                }
            }
        }

        /** Does a step for a running task, which has a credit if an item is next. */
        private void step(int call) {
            if (isItemNext(call)) {
                sendItem(call);
            } else {
                perform(call);
            }
        }

        private boolean isItemNext(int call) {
            return book.methods[call] == STREAM && itemsSent[call] < book.arguments[call];
        }

        private void sendItem(int call) {
            int index = itemsSent[call];
            toCaller.send(ITEM, call, index, book.arguments[call] - index);
            creditsLeft[call]--;
            itemsSent[call]++;
        }

        private void perform(int call) {
            int method = book.methods[call];
            int answer = answerOf(method, book.arguments[call]);
            if (method == ADD) {
                added = answer;
            }
            results[call] = method == FAIL ? FAILED : ANSWERED;
            values[call] = answer;
            states[call] = TASK_ANSWERED;
            sendAnswer(call);
        }

        /** The value that a method answers now, which is 0 for the one that fails. */
        private int answerOf(int method, int argument) {
            switch (method) {
                case SQUARE:
                    return argument * argument;
                case ADD:
                    return added + argument;
                case STREAM:
                    return Math.max(argument, 0);
                default:
                    return 0;
            }
        }

        private void sendAnswer(int call) {
            toCaller.send(ANSWER, call, results[call], values[call]);
        }
    }
}
