import java.util.Arrays;

/**
 * Replicas that tell one another how far they are, and send what others lack, in messages of some
 * bytes at most, over a network that loses, doubles and changes the order of messages.
 */
public final class ChangeSync {
    /** There is none. */
    public static final int NONE = -1;

    private static final int MIN_REPLICAS = 2;
    private static final int MAX_REPLICAS = 8;
    private static final int MIN_MESSAGE_BYTES = 16;
    private static final int MAX_MESSAGE_BYTES = 2000;
    private static final int MAX_WEIGHT = 400;
    private static final int MAX_MADE = 60;
    private static final int MAX_IN_FLIGHT = 120;
    private static final int HEAD_BYTES = 3;
    /** A change is told as actor + SEQ_STEP * SEQ. */
    private static final int SEQ_STEP = 8;
    private static final int BITS_PER_ACTOR = 8;
    private static final int ACTOR_MASK = 255;
    /** No CLOCK is ever this: an actor's byte is 60 at most, so a CLOCK is never below 0. */
    private static final long NO_CLOCK = -1L;
    private static final int LAST_MESSAGE_ITEM = 4;
    private static final int[] NO_CHANGES = {};

    /** A message as it was sent. A PART tells no CLOCK, and a CLOCK has no changes. */
    private static final class Message {
        final int number;
        final int sender;
        final int receiver;
        final int bytes;
        final long toldClock;
        final int[] changes;

        Message(int number, int sender, int receiver, int bytes, long toldClock, int[] changes) {
            this.number = number;
            this.sender = sender;
            this.receiver = receiver;
            this.bytes = bytes;
            this.toldClock = toldClock;
            this.changes = changes;
        }

        boolean isClock() {
            return toldClock != NO_CLOCK;
        }
    }

    private final int replicaCount;
    private final int maxBytes;

    private final boolean[] isDown;
    private final long[] clocks;
    private final int[][] logs;
    private final int[] logSizes;
    /** By actor, and by SEQ - 1. */
    private final int[][] weights;

    private final Message[] flight;
    private int inFlight;
    /** The changes of the PART that is being filled: one row for all answers, to save room. */
    private final int[] gathered;

    private int sentCount;
    private int lostCount;
    private int goneCount;
    private int passedOverCount;

    public ChangeSync(int n, int m) {
        replicaCount = Math.max(MIN_REPLICAS, Math.min(MAX_REPLICAS, n));
        maxBytes = Math.max(MIN_MESSAGE_BYTES, Math.min(MAX_MESSAGE_BYTES, m));
        int allChanges = replicaCount * MAX_MADE;
        isDown = new boolean[replicaCount];
        clocks = new long[replicaCount];
        logs = new int[replicaCount][allChanges];
        logSizes = new int[replicaCount];
        weights = new int[replicaCount][MAX_MADE];
        flight = new Message[MAX_IN_FLIGHT];
        gathered = new int[allChanges];
    }

    // ---- what replicas and the network do

    public int make(int replica, int weight)
            throws IndexOutOfBoundsException, IllegalArgumentException, IllegalStateException {
        if (!isReplica(replica)) {
            throw new IndexOutOfBoundsException("no such replica");
        }
        if (weight < 1 || weight > MAX_WEIGHT) {
            throw new IllegalArgumentException("a weight is 1 .. 400");
        }
        int before = madeBy(replica);
        if (isDown[replica] || before >= MAX_MADE) {
            throw new IllegalStateException("the replica is down, or has made 60 changes");
        }
        int seq = before + 1;
        weights[replica][before] = weight;
        comesToLog(replica, replica + SEQ_STEP * seq);
        return seq;
    }

    public int tick(int replica) throws IndexOutOfBoundsException, IllegalStateException {
        if (!isReplica(replica)) {
            throw new IndexOutOfBoundsException("no such replica");
        }
        if (isDown[replica]) {
            throw new IllegalStateException("the replica is down");
        }
        for (int other = 0; other < replicaCount; other++) {
            if (other != replica) {
                sendClock(replica, other);
            }
        }
        return replicaCount - 1;
    }

    public int deliver(int i) throws IndexOutOfBoundsException {
        Message delivered = messageAt(i);
        if (delivered == null) {
            throw new IndexOutOfBoundsException("no such message in flight");
        }
        // Before any answer is sent: the place of a message that has arrived is free for it.
        takeOutOfFlight(i);
        if (isDown[delivered.receiver]) {
            goneCount++;
            return 0;
        }
        return delivered.isClock() ? answer(delivered) : takeChanges(delivered);
    }

    public boolean lose(int i) {
        if (messageAt(i) == null) {
            return false;
        }
        takeOutOfFlight(i);
        lostCount++;
        return true;
    }

    public int twice(int i) throws IndexOutOfBoundsException {
        Message first = messageAt(i);
        if (first == null) {
            throw new IndexOutOfBoundsException("no such message in flight");
        }
        int number = sentCount;
        if (countAsSent()) {
            putInFlight(new Message(number, first.sender, first.receiver, first.bytes,
                    first.toldClock, first.changes));
        }
        return number;
    }

    public boolean up(int replica, boolean is) {
        if (!isReplica(replica) || isDown[replica] != is) {
            return false;
        }
        isDown[replica] = !is;
        return true;
    }

    // ---- what can be seen

    public int message(int i, int w) throws IndexOutOfBoundsException {
        Message seen = messageAt(i);
        if (seen == null || w < 0 || w > LAST_MESSAGE_ITEM) {
            throw new IndexOutOfBoundsException("no such message in flight, or no such w");
        }
        switch (w) {
            case 0:
                return seen.number;
            case 1:
                return seen.sender;
            case 2:
                return seen.receiver;
            case 3:
                return seen.bytes;
            default:
                return seen.isClock() ? NONE : seen.changes.length;
        }
    }

    public int inside(int i, int k) {
        Message seen = messageAt(i);
        if (seen == null || k < 0 || k >= seen.changes.length) {
            return NONE;
        }
        return seen.changes[k];
    }

    public long told(int i) {
        Message seen = messageAt(i);
        return seen == null ? NO_CLOCK : seen.toldClock;
    }

    public long clock(int replica) throws IndexOutOfBoundsException {
        if (!isReplica(replica)) {
            throw new IndexOutOfBoundsException("no such replica");
        }
        return clocks[replica];
    }

    public int log(int replica, int k) {
        if (!isReplica(replica) || k < 0 || k >= logSizes[replica]) {
            return NONE;
        }
        return logs[replica][k];
    }

    public int weight(int actor, int seq) {
        if (!isReplica(actor) || seq < 1 || seq > madeBy(actor)) {
            return NONE;
        }
        return weights[actor][seq - 1];
    }

    public int lacks(int replica) throws IndexOutOfBoundsException {
        if (!isReplica(replica)) {
            throw new IndexOutOfBoundsException("no such replica");
        }
        return madeByAll() - logSizes[replica];
    }

    public int look(int which) {
        switch (which) {
            case 0:
                return replicaCount;
            case 1:
                return maxBytes;
            case 2:
                return inFlight;
            case 3:
                return sentCount;
            case 4:
                return lostCount;
            case 5:
                return goneCount;
            case 6:
                return passedOverCount;
            case 7:
                return replicasWithAll();
            case 8:
                return bytesInFlight();
            default:
                return NONE;
        }
    }

    // ---- replicas and their changes

    private boolean isReplica(int replica) {
        return replica >= 0 && replica < replicaCount;
    }

    private static int actorOf(int change) {
        return change % SEQ_STEP;
    }

    private static int seqOf(int change) {
        return change / SEQ_STEP;
    }

    private static int countIn(long ofClock, int actor) {
        return (int) (ofClock >>> (BITS_PER_ACTOR * actor)) & ACTOR_MASK;
    }

    /** An actor always has all its own changes, so its own CLOCK tells how many it made. */
    private int madeBy(int actor) {
        return countIn(clocks[actor], actor);
    }

    private int madeByAll() {
        int made = 0;
        for (int actor = 0; actor < replicaCount; actor++) {
            made += madeBy(actor);
        }
        return made;
    }

    private int replicasWithAll() {
        int made = madeByAll();
        int count = 0;
        for (int replica = 0; replica < replicaCount; replica++) {
            if (logSizes[replica] == made) {
                count++;
            }
        }
        return count;
    }

    /** Whether the change is the next one of its actor here, and so has come to the LOG. */
    private boolean comesToLog(int replica, int change) {
        int actor = actorOf(change);
        int size = logSizes[replica];
        if (seqOf(change) != countIn(clocks[replica], actor) + 1 || size >= logs[replica].length) {
            return false;
        }
        logs[replica][size] = change;
        logSizes[replica] = size + 1;
        clocks[replica] += 1L << (BITS_PER_ACTOR * actor);
        return true;
    }

    // ---- messages that arrive

    /** How many changes of a PART come to its receiver's LOG. */
    private int takeChanges(Message part) {
        int taken = 0;
        for (int change : part.changes) {
            if (comesToLog(part.receiver, change)) {
                taken++;
            } else {
                passedOverCount++;
            }
        }
        return taken;
    }

    /** How many PARTS the receiver of a CLOCK sends back. */
    private int answer(Message asked) {
        int replier = asked.receiver;
        int parts = 0;
        int size = 0;
        int bytes = HEAD_BYTES;
        for (int k = 0; k < logSizes[replier] && size < gathered.length; k++) {
            int change = logs[replier][k];
            if (seqOf(change) <= countIn(asked.toldClock, actorOf(change))) {
                continue;
            }
            int more = weight(actorOf(change), seqOf(change));
            if (size > 0 && bytes + more > maxBytes) {
                sendGathered(replier, asked.sender, bytes, size);
                parts++;
                size = 0;
                bytes = HEAD_BYTES;
            }
            gathered[size] = change;
            size++;
            bytes += more;
        }
        if (size > 0) {
            sendGathered(replier, asked.sender, bytes, size);
            parts++;
        }
        return parts;
    }

    // ---- messages in FLIGHT

    private Message messageAt(int i) {
        return i >= 0 && i < inFlight ? flight[i] : null;
    }

    private int bytesInFlight() {
        int bytes = 0;
        for (int i = 0; i < inFlight; i++) {
            Message flying = messageAt(i);
            if (flying != null) {
                bytes += flying.bytes;
            }
        }
        return bytes;
    }

    private void sendClock(int sender, int receiver) {
        int number = sentCount;
        if (countAsSent()) {
            putInFlight(new Message(number, sender, receiver, HEAD_BYTES + replicaCount,
                    clocks[sender], NO_CHANGES));
        }
    }

    private void sendGathered(int sender, int receiver, int bytes, int size) {
        int number = sentCount;
        if (countAsSent()) {
            putInFlight(new Message(number, sender, receiver, bytes, NO_CLOCK,
                    Arrays.copyOf(gathered, size)));
        }
    }

    /**
     * Counts a message as sent, and as lost if there is no room for it: whether there is room. Done
     * before the message is made, so that a lost one costs no object.
     */
    private boolean countAsSent() {
        sentCount++;
        if (inFlight < MAX_IN_FLIGHT) {
            return true;
        }
        lostCount++;
        return false;
    }

    private void putInFlight(Message sent) {
        if (inFlight < flight.length) {
            flight[inFlight] = sent;
            inFlight++;
        }
    }

    private void takeOutOfFlight(int i) {
        for (int k = i + 1; k < inFlight; k++) {
            flight[k - 1] = flight[k];
        }
        if (inFlight > 0) {
            inFlight--;
            flight[inFlight] = null;
        }
    }
}
