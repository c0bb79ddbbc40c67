/** Each promise of the document by itself: ordinary inputs, edges, wrong inputs. */
public final class PromisesTest {
    private static final Class<IndexOutOfBoundsException> NO_SUCH = IndexOutOfBoundsException.class;
    private static final Class<IllegalArgumentException> BAD_ARGUMENT = IllegalArgumentException.class;
    private static final Class<IllegalStateException> BAD_STATE = IllegalStateException.class;
    private static final int[] FAR = {Integer.MIN_VALUE, -1000, 1000, Integer.MAX_VALUE};

    private static final Checks checks = new Checks();

    public static void main(String[] args) {
        newObject();
        newObjectNearest();
        make();
        makeWrong();
        tick();
        tickWithoutRoom();
        deliverClock();
        deliverClockInParts();
        deliverClockOfThePast();
        deliverPart();
        deliverToDown();
        deliverWhenFull();
        deliverWrong();
        lose();
        twice();
        up();
        message();
        inside();
        told();
        clock();
        log();
        weight();
        lacks();
        look();
        mostOfAll();
        checks.end();
    }

    private static int change(int actor, int seq) {
        return actor + 8 * seq;
    }

    private static void makeMany(ChangeSync x, int replica, int... weights) {
        for (int weight : weights) {
            x.make(replica, weight);
        }
    }

    private static void fillFlight(ChangeSync x) {
        x.tick(0);
        for (int i = 0; i < 200 && x.look(2) < 120; i++) {
            x.twice(0);
        }
    }

    private static String insideAll(ChangeSync x, int i) {
        StringBuilder text = new StringBuilder();
        for (int k = 0; k < x.message(i, 4); k++) {
            text.append(x.inside(i, k)).append(' ');
        }
        return text.toString().trim();
    }

    // ---- promise 1

    private static void newObject() {
        ChangeSync x = new ChangeSync(3, 100);
        checks.due("N", x.look(0), 3);
        checks.due("M", x.look(1), 100);
        for (int which = 2; which <= 8; which++) {
            checks.due("new, look " + which, x.look(which), which == 7 ? 3 : 0);
        }
        for (int replica = 0; replica < 3; replica++) {
            checks.due("new, clock", x.clock(replica), 0);
            checks.due("new, lacks", x.lacks(replica), 0);
            checks.due("new, log", x.log(replica, 0), -1);
            checks.due("new, weight", x.weight(replica, 1), -1);
            checks.due("new, up", x.up(replica, true), false);
        }
    }

    private static void newObjectNearest() {
        int[][] replicas = {{2, 2}, {8, 8}, {1, 2}, {0, 2}, {-1, 2}, {9, 8},
            {Integer.MIN_VALUE, 2}, {Integer.MAX_VALUE, 8}};
        for (int[] row : replicas) {
            ChangeSync x = new ChangeSync(row[0], 50);
            checks.due("N for " + row[0], x.look(0), row[1]);
            checks.due("last replica for " + row[0], x.clock(row[1] - 1), 0);
            checks.dueThrow("behind the last for " + row[0], NO_SUCH, () -> x.clock(row[1]));
        }
        int[][] bytes = {{16, 16}, {2000, 2000}, {15, 16}, {17, 17}, {1999, 1999}, {2001, 2000},
            {0, 16}, {-5, 16}, {Integer.MIN_VALUE, 16}, {Integer.MAX_VALUE, 2000}};
        for (int[] row : bytes) {
            checks.due("M for " + row[0], new ChangeSync(2, row[0]).look(1), row[1]);
        }
    }

    // ---- promise 2

    private static void make() {
        ChangeSync x = new ChangeSync(2, 100);
        checks.due("first make", x.make(0, 1), 1);
        checks.due("second make", x.make(0, 400), 2);
        checks.due("other's make", x.make(1, 7), 1);
        checks.due("log 0", x.log(0, 0), change(0, 1));
        checks.due("log 1", x.log(0, 1), change(0, 2));
        checks.due("log end", x.log(0, 2), -1);
        checks.due("other's log", x.log(1, 0), change(1, 1));
        checks.due("clock", x.clock(0), 2);
        checks.due("other's clock", x.clock(1), 0x100);
        checks.due("nothing is sent", x.look(3), 0);
        for (int seq = 3; seq <= 60; seq++) {
            checks.due("make " + seq, x.make(0, seq), seq);
        }
        checks.dueThrow("make 61", BAD_STATE, () -> x.make(0, 1));
        checks.due("the other goes on", x.make(1, 7), 2);
    }

    private static void makeWrong() {
        ChangeSync x = new ChangeSync(2, 100);
        checks.dueThrow("make(-1)", NO_SUCH, () -> x.make(-1, 5));
        checks.dueThrow("make(2)", NO_SUCH, () -> x.make(2, 5));
        for (int far : FAR) {
            checks.dueThrow("make far", NO_SUCH, () -> x.make(far, 5));
            checks.dueThrow("make heavy", BAD_ARGUMENT, () -> x.make(0, far));
        }
        checks.dueThrow("weight 0", BAD_ARGUMENT, () -> x.make(0, 0));
        checks.dueThrow("weight 401", BAD_ARGUMENT, () -> x.make(0, 401));
        checks.dueThrow("replica before weight", NO_SUCH, () -> x.make(2, 0));
        x.up(1, false);
        checks.dueThrow("make of one down", BAD_STATE, () -> x.make(1, 5));
        checks.dueThrow("weight before down", BAD_ARGUMENT, () -> x.make(1, 0));
        x.up(1, true);
        checks.due("up again", x.make(1, 5), 1);
    }

    // ---- promise 3

    private static void tick() {
        ChangeSync x = new ChangeSync(4, 100);
        x.make(2, 9);
        x.up(3, false);
        checks.due("tick", x.tick(2), 3);
        int[] receivers = {0, 1, 3};
        for (int i = 0; i < 3; i++) {
            checks.due("number", x.message(i, 0), i);
            checks.due("sender", x.message(i, 1), 2);
            checks.due("receiver", x.message(i, 2), receivers[i]);
            checks.due("bytes", x.message(i, 3), 7);
            checks.due("a clock", x.message(i, 4), -1);
            checks.due("told", x.told(i), 0x10000);
        }
        checks.due("in flight", x.look(2), 3);
        checks.dueThrow("tick(-1)", NO_SUCH, () -> x.tick(-1));
        checks.dueThrow("tick(4)", NO_SUCH, () -> x.tick(4));
        checks.dueThrow("tick of one down", BAD_STATE, () -> x.tick(3));
        for (int far : FAR) {
            checks.dueThrow("tick far", NO_SUCH, () -> x.tick(far));
        }
    }

    private static void tickWithoutRoom() {
        ChangeSync x = new ChangeSync(8, 100);
        for (int t = 0; t < 17; t++) {
            checks.due("tick", x.tick(t % 8), 7);
        }
        checks.due("119 in flight", x.look(2), 119);
        checks.due("none lost", x.look(4), 0);
        checks.due("tick into the last place", x.tick(1), 7);
        checks.due("120 in flight", x.look(2), 120);
        checks.due("sent", x.look(3), 126);
        checks.due("lost", x.look(4), 6);
        checks.due("the least had room", x.message(119, 2), 0);
        x.lose(0);
        x.tick(0);
        checks.due("lost ones have numbers", x.message(119, 0), 126);
    }

    // ---- promise 4

    private static void deliverClock() {
        ChangeSync x = new ChangeSync(3, 100);
        x.tick(0);
        checks.due("nothing to answer", x.deliver(0), 0);
        checks.due("one in flight", x.look(2), 1);
        checks.due("no part", x.look(3), 2);
        makeMany(x, 2, 10, 20);
        checks.due("one part", x.deliver(0), 1);
        checks.due("from the receiver", x.message(0, 1), 2);
        checks.due("to the sender", x.message(0, 2), 0);
        checks.due("its number", x.message(0, 0), 2);
        checks.due("its bytes", x.message(0, 3), 33);
        checks.due("its changes", insideAll(x, 0), change(2, 1) + " " + change(2, 2));
    }

    private static void deliverClockInParts() {
        ChangeSync x = new ChangeSync(2, 20);
        makeMany(x, 1, 10, 7, 1, 400, 17, 18, 5, 5);
        x.tick(0);
        checks.due("parts", x.deliver(0), 6);
        int[][] parts = {{20, 2}, {4, 1}, {403, 1}, {20, 1}, {21, 1}, {13, 2}};
        int seq = 1;
        for (int i = 0; i < parts.length; i++) {
            checks.due("bytes of part " + i, x.message(i, 3), parts[i][0]);
            checks.due("changes of part " + i, x.message(i, 4), parts[i][1]);
            for (int k = 0; k < parts[i][1]; k++) {
                checks.due("inside part " + i, x.inside(i, k), change(1, seq));
                seq++;
            }
            checks.due("number of part " + i, x.message(i, 0), 1 + i);
        }
        checks.due("bytes in flight", x.look(8), 20 + 4 + 403 + 20 + 21 + 13);
    }

    /** What counts is the CLOCK as it was told, also for changes that the sender made since. */
    private static void deliverClockOfThePast() {
        ChangeSync x = new ChangeSync(2, 100);
        x.tick(0);
        makeMany(x, 0, 5, 6);
        x.tick(1);
        x.deliver(1);
        checks.due("both come", x.deliver(1), 2);
        x.make(1, 7);
        checks.due("an old clock is answered", x.deliver(0), 1);
        checks.due("in the order of the log", insideAll(x, 0),
                change(0, 1) + " " + change(0, 2) + " " + change(1, 1));
        checks.due("only the new one comes", x.deliver(0), 1);
        checks.due("passed over", x.look(6), 2);
    }

    private static void deliverPart() {
        ChangeSync x = new ChangeSync(3, 16);
        makeMany(x, 0, 13, 13, 13);
        x.tick(1);
        checks.due("three parts", x.deliver(0), 3);
        checks.due("too early", x.deliver(3), 0);
        checks.due("passed over", x.look(6), 1);
        checks.due("the log is empty", x.log(1, 0), -1);
        x.twice(1);
        checks.due("the first", x.deliver(1), 1);
        checks.due("the second", x.deliver(1), 1);
        checks.due("the first again", x.deliver(1), 0);
        checks.due("passed over", x.look(6), 2);
        checks.due("clock", x.clock(1), 2);
        checks.due("nothing new in flight", x.look(2), 1);
        checks.due("nothing sent by parts", x.look(3), 6);
        checks.due("log", x.log(1, 1), change(0, 2));
        checks.due("none behind", x.log(1, 2), -1);
    }

    private static void deliverToDown() {
        ChangeSync x = new ChangeSync(2, 100);
        makeMany(x, 1, 5);
        x.tick(0);
        x.twice(0);
        x.up(1, false);
        checks.due("a clock to one down", x.deliver(0), 0);
        checks.due("gone", x.look(5), 1);
        checks.due("no answer", x.look(3), 2);
        x.up(1, true);
        x.up(0, false);
        checks.due("one down is answered", x.deliver(0), 1);
        checks.due("a part to one down", x.deliver(0), 0);
        checks.due("gone", x.look(5), 2);
        checks.due("not passed over", x.look(6), 0);
        checks.due("not lost", x.look(4), 0);
        checks.due("not in flight", x.look(2), 0);
        checks.due("clock", x.clock(0), 0);
    }

    private static void deliverWhenFull() {
        ChangeSync x = new ChangeSync(2, 16);
        makeMany(x, 1, 13, 13, 13);
        fillFlight(x);
        checks.due("full", x.look(2), 120);
        checks.due("parts, also lost ones", x.deliver(60), 3);
        checks.due("full again", x.look(2), 120);
        checks.due("sent", x.look(3), 123);
        checks.due("lost", x.look(4), 2);
        checks.due("the first part had room", x.inside(119, 0), change(1, 1));
        checks.due("its number", x.message(119, 0), 120);
    }

    private static void deliverWrong() {
        ChangeSync x = new ChangeSync(3, 100);
        checks.dueThrow("deliver(0) of none", NO_SUCH, () -> x.deliver(0));
        x.tick(0);
        checks.dueThrow("deliver(-1)", NO_SUCH, () -> x.deliver(-1));
        checks.dueThrow("deliver(2)", NO_SUCH, () -> x.deliver(2));
        for (int far : FAR) {
            checks.dueThrow("deliver far", NO_SUCH, () -> x.deliver(far));
        }
        fillFlight(x);
        checks.dueThrow("deliver(120)", NO_SUCH, () -> x.deliver(120));
        x.deliver(119);
        checks.due("the last is there no more", x.look(2), 119);
        checks.due("the others are", x.message(118, 0), 118);
    }

    // ---- promise 5

    private static void lose() {
        ChangeSync x = new ChangeSync(4, 100);
        checks.due("lose(0) of none", x.lose(0), false);
        x.tick(0);
        checks.due("lose(1)", x.lose(1), true);
        checks.due("in flight", x.look(2), 2);
        checks.due("lost", x.look(4), 1);
        checks.due("sent", x.look(3), 3);
        checks.due("before it", x.message(0, 0), 0);
        checks.due("behind it", x.message(1, 0), 2);
        checks.due("lose(2)", x.lose(2), false);
        checks.due("lose(-1)", x.lose(-1), false);
        for (int far : FAR) {
            checks.due("lose far", x.lose(far), false);
        }
        checks.due("lose the last", x.lose(1), true);
        checks.due("lose the only", x.lose(0), true);
        checks.due("lost", x.look(4), 3);
        checks.due("bytes", x.look(8), 0);
    }

    // ---- promise 6

    private static void twice() {
        ChangeSync x = new ChangeSync(3, 100);
        checks.dueThrow("twice(0) of none", NO_SUCH, () -> x.twice(0));
        makeMany(x, 1, 5, 6);
        x.tick(0);
        x.make(0, 9);
        x.up(0, false);
        checks.due("a clock twice, sender down", x.twice(0), 2);
        checks.due("told as it was", x.told(2), 0);
        checks.due("sender", x.message(2, 1), 0);
        checks.due("receiver", x.message(2, 2), 1);
        checks.due("bytes", x.message(2, 3), 6);
        checks.due("sent", x.look(3), 3);
        checks.due("the first stays", x.message(0, 0), 0);
        x.deliver(0);
        checks.due("a part twice", x.twice(2), 4);
        checks.due("the same changes", insideAll(x, 3), change(1, 1) + " " + change(1, 2));
        checks.due("the same bytes", x.message(3, 3), 14);
        checks.due("number", x.message(3, 0), 4);
        checks.due("no clock", x.told(3), -1);
        checks.dueThrow("twice(4)", NO_SUCH, () -> x.twice(4));
        checks.dueThrow("twice(-1)", NO_SUCH, () -> x.twice(-1));
        for (int far : FAR) {
            checks.dueThrow("twice far", NO_SUCH, () -> x.twice(far));
        }
        x.up(0, true);
        fillFlight(x);
        int sent = x.look(3);
        checks.due("twice without room", x.twice(5), sent);
        checks.due("sent", x.look(3), sent + 1);
        checks.due("lost", x.look(4), 1);
        checks.due("in flight", x.look(2), 120);
        checks.due("the last stays", x.message(119, 0), sent - 1);
    }

    // ---- promise 7

    private static void up() {
        ChangeSync x = new ChangeSync(2, 100);
        x.make(0, 5);
        x.tick(0);
        checks.due("up of one up", x.up(0, true), false);
        checks.due("down", x.up(0, false), true);
        checks.due("its log stays", x.log(0, 0), 8);
        checks.due("its clock stays", x.clock(0), 1);
        checks.due("its message stays", x.told(0), 1);
        checks.due("down of one down", x.up(0, false), false);
        checks.due("the other is up", x.up(1, true), false);
        checks.due("up again", x.up(0, true), true);
        checks.due("it works again", x.make(0, 5), 2);
        for (int none : new int[] {-1, 2, Integer.MIN_VALUE, Integer.MAX_VALUE}) {
            checks.due("up of none", x.up(none, true), false);
            checks.due("down of none", x.up(none, false), false);
        }
    }

    // ---- promises 8 to 10

    private static void message() {
        ChangeSync x = new ChangeSync(8, 100);
        checks.dueThrow("message(0, 0) of none", NO_SUCH, () -> x.message(0, 0));
        makeMany(x, 4, 30, 40);
        x.tick(6);
        x.deliver(4);
        int[] clock = {0, 6, 0, 11, -1};
        int[] part = {7, 4, 6, 73, 2};
        for (int w = 0; w <= 4; w++) {
            checks.due("clock, w " + w, x.message(0, w), clock[w]);
            checks.due("part, w " + w, x.message(6, w), part[w]);
        }
        for (int w : new int[] {-1, 5, Integer.MIN_VALUE, Integer.MAX_VALUE}) {
            checks.dueThrow("message w " + w, NO_SUCH, () -> x.message(0, w));
        }
        for (int i : new int[] {-1, 7, Integer.MIN_VALUE, Integer.MAX_VALUE}) {
            checks.dueThrow("message " + i, NO_SUCH, () -> x.message(i, 0));
        }
    }

    private static void inside() {
        ChangeSync x = new ChangeSync(2, 100);
        checks.due("of none", x.inside(0, 0), -1);
        makeMany(x, 1, 3, 4);
        x.tick(0);
        checks.due("of a clock", x.inside(0, 0), -1);
        x.deliver(0);
        x.make(1, 5);
        checks.due("first", x.inside(0, 0), 9);
        checks.due("second", x.inside(0, 1), 17);
        for (int far : new int[] {-1, 2, Integer.MIN_VALUE, Integer.MAX_VALUE}) {
            checks.due("no such change", x.inside(0, far), -1);
            checks.due("no such message", x.inside(far, 0), -1);
        }
    }

    private static void told() {
        ChangeSync x = new ChangeSync(2, 100);
        checks.due("of none", x.told(0), -1);
        makeMany(x, 1, 3, 4);
        x.tick(1);
        x.make(1, 5);
        checks.due("as it was when sent", x.told(0), 0x200);
        x.tick(0);
        checks.due("an empty clock", x.told(1), 0);
        x.deliver(1);
        checks.due("of a part", x.told(1), -1);
        for (int far : new int[] {-1, 2, Integer.MIN_VALUE, Integer.MAX_VALUE}) {
            checks.due("no such message", x.told(far), -1);
        }
    }

    // ---- promises 11 to 14

    private static void clock() {
        ChangeSync x = new ChangeSync(8, 2000);
        for (int seq = 1; seq <= 60; seq++) {
            x.make(7, 1);
        }
        makeMany(x, 0, 1, 2);
        checks.due("byte 7", x.clock(7), 60L << 56);
        checks.due("byte 0", x.clock(0), 2);
        checks.due("of the others", x.clock(3), 0);
        x.tick(0);
        x.deliver(6);
        x.deliver(6);
        checks.due("both", x.clock(0), (60L << 56) + 2);
        x.tick(0);
        checks.due("told", x.told(7), (60L << 56) + 2);
        for (int none : new int[] {-1, 8, Integer.MIN_VALUE, Integer.MAX_VALUE}) {
            checks.dueThrow("clock of none", NO_SUCH, () -> x.clock(none));
        }
    }

    private static void log() {
        ChangeSync x = new ChangeSync(3, 100);
        makeMany(x, 0, 5);
        makeMany(x, 2, 5, 5);
        x.tick(0);
        x.deliver(1);
        x.deliver(1);
        x.make(0, 6);
        int[] due = {8, 10, 18, 16};
        for (int k = 0; k < due.length; k++) {
            checks.due("log of 0", x.log(0, k), due[k]);
        }
        for (int far : new int[] {-1, 4, Integer.MIN_VALUE, Integer.MAX_VALUE}) {
            checks.due("no such change", x.log(0, far), -1);
        }
        for (int none : new int[] {-1, 3, Integer.MIN_VALUE, Integer.MAX_VALUE}) {
            checks.due("no such replica", x.log(none, 0), -1);
        }
    }

    private static void weight() {
        ChangeSync x = new ChangeSync(2, 100);
        makeMany(x, 0, 1, 400, 33);
        makeMany(x, 1, 77);
        checks.due("first", x.weight(0, 1), 1);
        checks.due("second", x.weight(0, 2), 400);
        checks.due("third", x.weight(0, 3), 33);
        checks.due("other's", x.weight(1, 1), 77);
        checks.due("not yet", x.weight(1, 2), -1);
        for (int far : new int[] {-1, 0, 4, 60, 61, Integer.MIN_VALUE, Integer.MAX_VALUE}) {
            checks.due("no such seq", x.weight(0, far), -1);
        }
        for (int none : new int[] {-1, 2, Integer.MIN_VALUE, Integer.MAX_VALUE}) {
            checks.due("no such actor", x.weight(none, 1), -1);
        }
        for (int seq = 4; seq <= 60; seq++) {
            x.make(0, seq);
        }
        checks.due("the last", x.weight(0, 60), 60);
        checks.due("behind the last", x.weight(0, 61), -1);
    }

    private static void lacks() {
        ChangeSync x = new ChangeSync(3, 100);
        makeMany(x, 0, 5, 5);
        makeMany(x, 1, 5);
        checks.due("of 0", x.lacks(0), 1);
        checks.due("of 1", x.lacks(1), 2);
        checks.due("of 2", x.lacks(2), 3);
        x.tick(2);
        x.deliver(0);
        x.deliver(1);
        checks.due("after a part", x.lacks(2), 1);
        x.up(2, false);
        checks.due("down", x.lacks(2), 1);
        for (int none : new int[] {-1, 3, Integer.MIN_VALUE, Integer.MAX_VALUE}) {
            checks.dueThrow("lacks of none", NO_SUCH, () -> x.lacks(none));
        }
    }

    // ---- promise 15

    private static void look() {
        ChangeSync x = new ChangeSync(3, 50);
        x.make(0, 5);
        checks.due("one has all", x.look(7), 1);
        x.tick(1);
        x.deliver(0);
        x.twice(1);
        checks.due("in flight", x.look(2), 3);
        checks.due("bytes", x.look(8), 6 + 8 + 8);
        x.deliver(1);
        checks.due("two have all", x.look(7), 2);
        x.up(1, false);
        checks.due("also one down", x.look(7), 2);
        x.deliver(1);
        x.lose(0);
        int[] due = {3, 50, 0, 4, 1, 1, 0, 2, 0};
        for (int which = 0; which < due.length; which++) {
            checks.due("look " + which, x.look(which), due[which]);
        }
        x.make(2, 5);
        checks.due("none has all", x.look(7), 0);
        for (int which : new int[] {-1, 9, Integer.MIN_VALUE, Integer.MAX_VALUE}) {
            checks.due("look " + which, x.look(which), -1);
        }
    }

    /** All 480 changes in one LOG and in one PART, and then in the most PARTS. */
    private static void mostOfAll() {
        ChangeSync x = new ChangeSync(8, 2000);
        for (int seq = 1; seq <= 60; seq++) {
            for (int actor = 0; actor < 8; actor++) {
                x.make(actor, 1);
            }
        }
        x.tick(0);
        for (int other = 1; other < 8; other++) {
            x.deliver(0);
        }
        for (int other = 1; other < 8; other++) {
            checks.due("60 come", x.deliver(0), 60);
        }
        checks.due("lacks none", x.lacks(0), 0);
        checks.due("the last of the log", x.log(0, 479), change(7, 60));
        checks.due("none behind", x.log(0, 480), -1);
        checks.due("made 60", Checks.outcome(() -> x.make(0, 1)), "throws IllegalStateException");
        x.tick(1);
        checks.due("one part", x.deliver(0), 1);
        checks.due("of 420", x.message(x.look(2) - 1, 4), 420);
        checks.due("all come", x.deliver(x.look(2) - 1), 420);
        checks.due("two have all", x.look(7), 2);

        ChangeSync y = new ChangeSync(8, 16);
        for (int seq = 1; seq <= 60; seq++) {
            y.make(0, 400);
        }
        y.tick(1);
        checks.due("60 parts", y.deliver(0), 60);
        y.tick(2);
        checks.due("60 parts more", y.deliver(66), 60);
        checks.due("in flight", y.look(2), 120);
        checks.due("lost", y.look(4), 12);
        checks.due("bytes", y.look(8), 12 * 11 + 108 * 403);
    }
}
