/** States of an object that more than one test begins with. */
final class Scenes {
    private Scenes() { }

    /**
     * A bit of everything, and no count of look() is what it is in a new object, or like another: 3
     * replicas, M 20; replica 1 is DOWN; the LOGS are (8, 16), (9) and (8); in FLIGHT are the CLOCK 1
     * from 2 to 1 and the PART 4 from 0 to 2 with the change 8; 7 sent, 1 lost, 1 gone, 1 passed over.
     */
    static ChangeSync busy() {
        ChangeSync x = new ChangeSync(3, 20);
        make(x, 0, 10, 9);
        make(x, 1, 5);
        x.tick(2);
        x.deliver(0);
        x.deliver(2);
        x.twice(1);
        x.tick(0);
        x.lose(4);
        x.up(1, false);
        x.deliver(3);
        x.deliver(1);
        return x;
    }

    /** 8 replicas, the last of them with three changes, and 120 CLOCKS of replica 0 in FLIGHT. */
    static ChangeSync full() {
        ChangeSync x = new ChangeSync(8, 16);
        make(x, 7, 13, 13, 13);
        fill(x, 120);
        return x;
    }

    /** Two replicas; replica 0 has made 60 changes of weight 2. */
    static ChangeSync made60() {
        ChangeSync x = new ChangeSync(2, 16);
        make60(x, 0, 2);
        return x;
    }

    static void make(ChangeSync x, int replica, int... weights) {
        for (int weight : weights) {
            x.make(replica, weight);
        }
    }

    static void make60(ChangeSync x, int replica, int weight) {
        for (int seq = 1; seq <= 60; seq++) {
            x.make(replica, weight);
        }
    }

    /** Sends CLOCKS of replica 0 until so many messages are in FLIGHT. */
    static void fill(ChangeSync x, int inFlight) {
        int left = inFlight - x.look(2);
        int byTick = x.look(0) - 1;
        for (; left >= byTick; left -= byTick) {
            x.tick(0);
        }
        for (; left > 0; left--) {
            x.twice(0);
        }
    }

    /** A replica asks another, with nothing else in FLIGHT, and gets all that it lacks. */
    static void fetch(ChangeSync x, int asking, int asked) {
        x.tick(asking);
        int place = asked < asking ? asked : asked - 1;
        int parts = x.deliver(place);
        int clocks = x.look(0) - 2;
        for (int i = 0; i < clocks; i++) {
            x.lose(0);
        }
        for (int i = 0; i < parts; i++) {
            x.deliver(0);
        }
    }

    /** All 480 changes that there can be, of weight 4, made by 8 replicas; replica 0 has them all: 495 calls. */
    static ChangeSync all480() {
        ChangeSync x = new ChangeSync(8, 2000);
        for (int actor = 0; actor < 8; actor++) {
            make60(x, actor, 4);
        }
        x.tick(0);
        for (int i = 0; i < 14; i++) {
            x.deliver(0);
        }
        return x;
    }

    /** What is inside a PART: its BYTES and the changes, as in "16[9 17]". */
    static String part(ChangeSync x, int i) {
        StringBuilder text = new StringBuilder();
        text.append(x.message(i, 3)).append('[');
        int size = x.message(i, 4);
        for (int k = 0; k < size; k++) {
            text.append(k == 0 ? "" : " ").append(x.inside(i, k));
        }
        return text.append(']').toString();
    }

    /** Replica 1 has these changes, and answers replica 0, which has none: the PARTS. */
    static String parts(int m, int... weights) {
        ChangeSync x = new ChangeSync(2, m);
        make(x, 1, weights);
        x.tick(0);
        int count = x.deliver(0);
        StringBuilder text = new StringBuilder();
        for (int i = 0; i < count; i++) {
            text.append(i == 0 ? "" : " ").append(part(x, i));
        }
        return text.toString();
    }

    /** The NUMBERS of the messages in FLIGHT. */
    static String numbers(ChangeSync x) {
        StringBuilder text = new StringBuilder();
        int size = x.look(2);
        for (int i = 0; i < size; i++) {
            text.append(i == 0 ? "" : " ").append(x.message(i, 0));
        }
        return text.toString();
    }

    static String log(ChangeSync x, int replica) {
        StringBuilder text = new StringBuilder();
        for (int k = 0; k <= 480 && x.log(replica, k) != ChangeSync.NONE; k++) {
            text.append(k == 0 ? "" : " ").append(x.log(replica, k));
        }
        return text.toString();
    }
}
