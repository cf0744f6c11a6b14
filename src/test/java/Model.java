import java.util.ArrayDeque;
import java.util.ArrayList;
import java.util.Deque;
import java.util.List;
import java.util.TreeMap;

/** The document told once more, with the library's collections, to hold Callgate against. */
final class Model {

    enum Refusal { INDEX, ARGUMENT, STATE }

    /** Tells which exception is due. */
    static final class Refused extends RuntimeException {
        private static final long serialVersionUID = 1L;
        final Refusal why;

        Refused(Refusal why) {
            this.why = why;
        }
    }

    private static final class Call {
        int number;
        int method;
        int argument;
        int deadline;
        int outcome = -1;
        int value;
        int attempts;
        int sent;
        Call parent;
        final List<Integer> items = new ArrayList<>();
        Task task;
    }

    private static final class Task {
        int state;
        int credits;
        final Deque<Integer> left = new ArrayDeque<>();
        int items;
        int result;
        int value;
    }

    private static final class Frame {
        final int kind;
        final Call call;
        final int extra;
        final int value;

        Frame(int kind, Call call, int extra, int value) {
            this.kind = kind;
            this.call = call;
            this.extra = extra;
            this.value = value;
        }
    }

    private final List<Call> calls = new ArrayList<>();
    private final List<List<Frame>> link = List.of(new ArrayList<>(), new ArrayList<>());
    private int tokens = 100;
    private int total;
    private int now;

    /** Does the call that the row tells: its number in the face's order, and its arguments. */
    int call(int[] row) {
        switch (row[0]) {
            case 0: return open(row[1], row[2], row[3], row[4]);
            case 1: return cancel(row[1]);
            case 2: return grant(row[1], row[2]);
            case 3: return calls.size();
            case 4: return known(row[1]).outcome;
            case 5: return value(row[1]);
            case 6: return known(row[1]).deadline;
            case 7: return known(row[1]).attempts;
            case 8: return known(row[1]).items.size();
            case 9: return known(row[1]).items.stream().mapToInt(Integer::intValue).sum();
            case 10: return tokens;
            case 11: return work(row[1]);
            case 12: return known(row[1]).task == null ? 0 : known(row[1]).task.state;
            case 13: return known(row[1]).task == null ? 0 : known(row[1]).task.credits;
            case 14: return total;
            case 15: return local(row[1], row[2]);
            case 16: return deliver(row[1]);
            case 17: return first(row[1]).call.number;
            case 18: return lane(row[1]).size();
            case 19: return 100 * placed(row[1], row[2]).kind + placed(row[1], row[2]).call.number;
            case 20: return placed(row[1], row[2]).value;
            case 21: return pass(row[1]);
            default: return now;
        }
    }

    private static void need(boolean holds, Refusal why) {
        if (!holds) {
            throw new Refused(why);
        }
    }

    private static boolean within(int least, int number, int most) {
        return least <= number && number <= most;
    }

    private Call known(int number) {
        need(within(0, number, calls.size() - 1), Refusal.INDEX);
        return calls.get(number);
    }

    private List<Frame> lane(int direction) {
        need(within(0, direction, 1), Refusal.ARGUMENT);
        return link.get(direction);
    }

    private Frame placed(int direction, int place) {
        need(within(0, place, lane(direction).size() - 1), Refusal.INDEX);
        return lane(direction).get(place);
    }

    private Frame first(int direction) {
        need(!lane(direction).isEmpty(), Refusal.STATE);
        return lane(direction).remove(0);
    }

    private void send(int direction, int kind, Call call, int extra, int value) {
        if (link.get(direction).size() < 40) {
            link.get(direction).add(new Frame(kind, call, extra, value));
        }
    }

    private int open(int method, int argument, int timeout, int parent) {
        Call above = parent == -1 ? null : known(parent);
        need(within(0, method, 3) && within(-1000, argument, 1000) && within(1, timeout, 1000), Refusal.ARGUMENT);
        need((above == null || above.outcome == -1) && calls.size() < 40, Refusal.STATE);
        Call call = new Call();
        call.number = calls.size();
        call.method = method;
        call.argument = argument;
        call.parent = above;
        call.deadline = above != null && above.deadline < now + timeout ? above.deadline : now + timeout;
        calls.add(call);
        request(call);
        return call.number;
    }

    private void request(Call call) {
        call.attempts++;
        call.sent = now;
        send(0, 0, call, 0, 0);
    }

    private int cancel(int number) {
        Call call = known(number);
        need(call.outcome == -1, Refusal.STATE);
        return end(call, 1, true);
    }

    private int end(Call call, int outcome, boolean told) {
        call.outcome = outcome;
        if (told) {
            send(0, 1, call, 0, 0);
        }
        TreeMap<Integer, Call> below = new TreeMap<>();
        for (Call other : calls) {
            for (Call above = other.parent; above != null; above = above.parent) {
                if (above == call && other.outcome == -1) {
                    below.put(other.number, other);
                }
            }
        }
        for (Call other : below.values()) {
            other.outcome = 1;
            send(0, 1, other, 0, 0);
        }
        return 1 + below.size();
    }

    private int grant(int number, int credit) {
        Call call = known(number);
        need(within(1, credit, 10), Refusal.ARGUMENT);
        need(call.method == 3 && call.outcome == -1, Refusal.STATE);
        send(0, 2, call, 0, credit);
        return 0;
    }

    private int value(int number) {
        need(known(number).outcome == 0, Refusal.STATE);
        return known(number).value;
    }

    private int work(int number) {
        Call call = known(number);
        Task task = call.task;
        need(task != null && task.state == 1, Refusal.STATE);
        if (!task.left.isEmpty()) {
            need(task.credits > 0, Refusal.STATE);
            task.credits--;
            send(1, 4, call, task.items++, task.left.pop());
            return 1;
        }
        if (call.method == 0) {
            task.value = call.argument * call.argument;
        } else if (call.method == 1) {
            total += call.argument;
            task.value = total;
        } else if (call.method == 2) {
            task.result = 3;
        } else {
            task.value = task.items;
        }
        task.state = 2;
        send(1, 3, call, task.result, task.value);
        return 2;
    }

    private int local(int method, int argument) {
        need(within(0, method, 3) && within(-1000, argument, 1000), Refusal.ARGUMENT);
        need(method != 2, Refusal.STATE);
        int items = argument < 0 ? 0 : argument;
        return method == 0 ? argument * argument : method == 1 ? total + argument : items;
    }

    private int deliver(int direction) {
        Frame frame = first(direction);
        Call call = frame.call;
        switch (frame.kind) {
            case 0:
                requestComes(call);
                break;
            case 1:
                if (call.task == null) {
                    call.task = new Task();
                    call.task.state = 3;
                } else if (call.task.state == 1) {
                    call.task.state = 3;
                }
                break;
            case 2:
                if (call.task != null && call.task.state == 1) {
                    call.task.credits += frame.value;
                }
                break;
            case 3:
                answerComes(call, frame);
                break;
            default:
                if (call.outcome == -1 && frame.extra == call.items.size()) {
                    call.items.add(frame.value);
                } else if (call.outcome == -1) {
                    end(call, 4, true);
                }
        }
        return call.number;
    }

    private void requestComes(Call call) {
        if (call.task != null) {
            if (call.task.state == 2) {
                send(1, 3, call, call.task.result, call.task.value);
            }
            return;
        }
        if (now >= call.deadline) {
            return;
        }
        call.task = new Task();
        call.task.state = 1;
        call.task.credits = 2;
        for (int item = call.argument; item >= 1 && call.method == 3; item--) {
            call.task.left.add(item);
        }
    }

    private void answerComes(Call call, Frame frame) {
        if (call.outcome != -1) {
            return;
        }
        if (call.method == 3 && frame.value != call.items.size()) {
            end(call, 4, false);
            return;
        }
        end(call, frame.extra, false);
        if (frame.extra == 0) {
            call.value = frame.value;
            tokens = tokens == 100 ? 100 : tokens + 1;
        }
    }

    private int pass(int ticks) {
        need(within(1, ticks, 200), Refusal.ARGUMENT);
        int ended = 0;
        for (int tick = 0; tick < ticks; tick++) {
            now++;
            for (Call call : calls) {
                if (call.outcome == -1 && call.deadline <= now) {
                    ended += end(call, 2, false);
                }
            }
            for (Call call : calls) {
                if (call.task != null && call.task.state == 1 && call.deadline <= now) {
                    call.task.state = 3;
                }
            }
            for (Call call : calls) {
                if (call.outcome == -1 && call.items.isEmpty() && call.sent <= now - 8
                        && call.attempts < 4 && tokens >= 10) {
                    tokens -= 10;
                    request(call);
                }
            }
        }
        return ended;
    }
}
