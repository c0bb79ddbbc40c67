import java.util.ArrayList;
import java.util.List;

/**
 * The document written a second time, slowly and with lists, to compare with. It keeps no CLOCK and
 * no sum: it counts each from the LOGS and messages when it is asked.
 */
final class Model {
    record Change(int actor, int seq, int weight) {
        int code() {
            return actor + 8 * seq;
        }
    }

    record Message(int number, int from, int to, long clock, List<Change> part, int bytes) { }

    private final int n;
    private final int m;
    private final List<List<Change>> logs = new ArrayList<>();
    private final List<Change> made = new ArrayList<>();
    private final boolean[] down = new boolean[8];
    private final List<Message> flight = new ArrayList<>();
    private int sent;
    private int lost;
    private int gone;
    private int passed;

    Model(int n, int m) {
        this.n = n < 2 ? 2 : n > 8 ? 8 : n;
        this.m = m < 16 ? 16 : m > 2000 ? 2000 : m;
        for (int r = 0; r < this.n; r++) {
            logs.add(new ArrayList<>());
        }
    }

    private void needReplica(int r) {
        if (r < 0 || r >= n) {
            throw new IndexOutOfBoundsException();
        }
    }

    private Message need(int i) {
        if (i < 0 || i >= flight.size()) {
            throw new IndexOutOfBoundsException();
        }
        return flight.get(i);
    }

    private int has(int r, int actor) {
        return (int) logs.get(r).stream().filter(c -> c.actor == actor).count();
    }

    private void send(int from, int to, long clock, List<Change> part) {
        int bytes = 3 + (part == null ? n : part.stream().mapToInt(c -> c.weight).sum());
        Message message = new Message(sent++, from, to, clock, part, bytes);
        if (flight.size() == 120) {
            lost++;
        } else {
            flight.add(message);
        }
    }

    int make(int r, int weight) {
        needReplica(r);
        if (weight < 1 || weight > 400) {
            throw new IllegalArgumentException();
        }
        if (down[r] || has(r, r) == 60) {
            throw new IllegalStateException();
        }
        Change change = new Change(r, has(r, r) + 1, weight);
        made.add(change);
        logs.get(r).add(change);
        return change.seq;
    }

    int tick(int r) {
        needReplica(r);
        if (down[r]) {
            throw new IllegalStateException();
        }
        int before = sent;
        for (int other = 0; other < n; other++) {
            if (other != r) {
                send(r, other, clock(r), null);
            }
        }
        return sent - before;
    }

    int deliver(int i) {
        Message message = need(i);
        flight.remove(i);
        if (down[message.to]) {
            gone++;
            return 0;
        }
        return message.part == null ? answer(message) : take(message);
    }

    private int take(Message message) {
        int before = logs.get(message.to).size();
        for (Change change : message.part) {
            if (change.seq == has(message.to, change.actor) + 1) {
                logs.get(message.to).add(change);
            } else {
                passed++;
            }
        }
        return logs.get(message.to).size() - before;
    }

    private int answer(Message message) {
        List<Change> rest = new ArrayList<>();
        for (Change change : logs.get(message.to)) {
            if (change.seq > (message.clock >> (8 * change.actor) & 255)) {
                rest.add(change);
            }
        }
        int parts = 0;
        while (!rest.isEmpty()) {
            List<Change> part = new ArrayList<>();
            int bytes = 3;
            while (!rest.isEmpty() && (part.isEmpty() || bytes + rest.get(0).weight <= m)) {
                bytes += rest.get(0).weight;
                part.add(rest.remove(0));
            }
            send(message.to, message.from, -1, part);
            parts++;
        }
        return parts;
    }

    boolean lose(int i) {
        if (i < 0 || i >= flight.size()) {
            return false;
        }
        flight.remove(i);
        lost++;
        return true;
    }

    int twice(int i) {
        Message message = need(i);
        send(message.from, message.to, message.clock, message.part);
        return sent - 1;
    }

    boolean up(int r, boolean is) {
        if (r < 0 || r >= n || down[r] == !is) {
            return false;
        }
        down[r] = !is;
        return true;
    }

    int message(int i, int w) {
        Message message = need(i);
        return switch (w) {
            case 0 -> message.number;
            case 1 -> message.from;
            case 2 -> message.to;
            case 3 -> message.bytes;
            case 4 -> message.part == null ? -1 : message.part.size();
            default -> throw new IndexOutOfBoundsException();
        };
    }

    int inside(int i, int k) {
        if (i < 0 || i >= flight.size() || flight.get(i).part == null) {
            return -1;
        }
        List<Change> part = flight.get(i).part;
        return k < 0 || k >= part.size() ? -1 : part.get(k).code();
    }

    long told(int i) {
        return i < 0 || i >= flight.size() ? -1 : flight.get(i).clock;
    }

    long clock(int r) {
        needReplica(r);
        long clock = 0;
        for (int actor = 0; actor < n; actor++) {
            clock |= (long) has(r, actor) << (8 * actor);
        }
        return clock;
    }

    int log(int r, int k) {
        return r < 0 || r >= n || k < 0 || k >= logs.get(r).size() ? -1 : logs.get(r).get(k).code();
    }

    int weight(int actor, int seq) {
        for (Change change : made) {
            if (change.actor == actor && change.seq == seq) {
                return change.weight;
            }
        }
        return -1;
    }

    int lacks(int r) {
        needReplica(r);
        List<Change> missing = new ArrayList<>(made);
        missing.removeAll(logs.get(r));
        return missing.size();
    }

    int look(int which) {
        int[] answers = {n, m, flight.size(), sent, lost, gone, passed,
            (int) logs.stream().filter(log -> log.containsAll(made)).count(),
            flight.stream().mapToInt(message -> message.bytes).sum()};
        return which < 0 || which > 8 ? -1 : answers[which];
    }
}
