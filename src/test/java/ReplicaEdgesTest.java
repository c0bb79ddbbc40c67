/** The boundaries of the promises on what replicas do: a new object, make, tick and up. */
public final class ReplicaEdgesTest {
    private static final String NEW = "n replicas, 2 .. 8, messages of at most m bytes, 16 .. 2000 "
            + "(others count as the nearest of these)";
    private static final String MAKES = "A replica makes its next change; it comes to its LOG: its SEQ.";
    private static final String NO_REPLICA = "IndexOutOfBoundsException if there is no such replica";
    private static final String NO_WEIGHT = "IllegalArgumentException if weight is not 1 .. 400";
    private static final String DOWN_OR_60 = "IllegalStateException if it is DOWN, or has made 60.";
    private static final String TICKS = "A replica sends its CLOCK to all others (DOWN ones, too), the least first: "
            + "how many messages it sends (also those that are lost).";
    private static final String TICK_DOWN = "IllegalStateException if it is DOWN.";
    private static final String UP = "A replica is UP or DOWN: true; false if there is no such replica, or it is so.";
    private static final String STAYS = "(Its LOG and CLOCK stay, and what is in FLIGHT.)";

    public static void main(String[] args) {
        Edges.run(ReplicaEdgesTest.class);
    }

    // ---- promise 1

    private static void countOfReplicas(Edges e, int n, int want) {
        ChangeSync x = new ChangeSync(n, 16);
        e.due("N for " + n, x.look(0), want);
        e.due("CLOCKS of the last replica for " + n, x.tick(want - 1), want - 1);
        e.due("no replica behind it for " + n, x.up(want, false), false);
    }

    @Says(in = "Promise 1", value = NEW)
    static void newWithTheFewestAndTheMostReplicas(Edges e) {
        countOfReplicas(e, 2, 2);
        countOfReplicas(e, 3, 3);
        countOfReplicas(e, 7, 7);
        countOfReplicas(e, 8, 8);
    }

    @Says(in = "Promise 1", value = NEW)
    static void newWithTooFewReplicas(Edges e) {
        for (int n : new int[] {1, 0, -1, -2, -8, Integer.MIN_VALUE + 1, Integer.MIN_VALUE}) {
            countOfReplicas(e, n, 2);
        }
    }

    @Says(in = "Promise 1", value = NEW)
    static void newWithTooManyReplicas(Edges e) {
        for (int n : new int[] {9, 10, 256, 258, 1 << 30, Integer.MAX_VALUE - 1, Integer.MAX_VALUE}) {
            countOfReplicas(e, n, 8);
        }
    }

    @Says(in = "Promise 1", value = NEW)
    static void newWithTheFewestAndTheMostBytes(Edges e) {
        for (int m : new int[] {16, 17, 1999, 2000}) {
            e.due("M for " + m, new ChangeSync(2, m).look(1), m);
        }
        e.due("17 bytes of 17", Scenes.parts(17, 6, 8), "17[9 17]");
        e.due("18 bytes of 17", Scenes.parts(17, 6, 9), "9[9] 12[17]");
        e.due("1999 bytes of 1999", Scenes.parts(1999, 400, 400, 400, 400, 396), "1999[9 17 25 33 41]");
        e.due("2000 bytes of 1999", Scenes.parts(1999, 400, 400, 400, 400, 397), "1603[9 17 25 33] 400[41]");
    }

    @Says(in = "Promise 1", value = NEW)
    static void newWithTooFewBytes(Edges e) {
        for (int m : new int[] {15, 1, 0, -1, -16, Integer.MIN_VALUE + 1, Integer.MIN_VALUE}) {
            e.due("M for " + m, new ChangeSync(2, m).look(1), 16);
            e.due("16 bytes for " + m, Scenes.parts(m, 6, 7), "16[9 17]");
            e.due("17 bytes for " + m, Scenes.parts(m, 6, 8), "9[9] 11[17]");
        }
    }

    @Says(in = "Promise 1", value = NEW)
    static void newWithTooManyBytes(Edges e) {
        for (int m : new int[] {2001, 2002, 1 << 20, Integer.MAX_VALUE - 1, Integer.MAX_VALUE}) {
            e.due("M for " + m, new ChangeSync(2, m).look(1), 2000);
            e.due("2000 bytes for " + m, Scenes.parts(m, 400, 400, 400, 400, 397), "2000[9 17 25 33 41]");
            e.due("2001 bytes for " + m, Scenes.parts(m, 400, 400, 400, 400, 398), "1603[9 17 25 33] 401[41]");
        }
    }

    @Says(in = "Promise 1", value = NEW)
    static void newWithBothWrong(Edges e) {
        ChangeSync x = new ChangeSync(Integer.MAX_VALUE, Integer.MIN_VALUE);
        e.due("N", x.look(0), 8);
        e.due("M", x.look(1), 16);
        ChangeSync y = new ChangeSync(Integer.MIN_VALUE, Integer.MAX_VALUE);
        e.due("N", y.look(0), 2);
        e.due("M", y.look(1), 2000);
    }

    // ---- promise 2

    @Says(in = "Promise 2", value = MAKES)
    static void makeOfTheFirstAndTheLastReplica(Edges e) {
        ChangeSync x = new ChangeSync(8, 16);
        e.due("first", x.make(0, 1), 1);
        e.due("its LOG", Scenes.log(x, 0), "8");
        e.due("last", x.make(7, 1), 1);
        e.due("its LOG", Scenes.log(x, 7), "15");
        e.due("no message is sent", x.look(3), 0);
    }

    @Says(in = "Promise 2", value = MAKES)
    static void makeComesToNoOtherLog(Edges e) {
        ChangeSync x = new ChangeSync(2, 16);
        x.make(0, 1);
        e.due("the other's LOG", Scenes.log(x, 1), "");
        e.due("the other's CLOCK", x.clock(1), 0);
    }

    @Says(in = "Promise 2", value = NO_REPLICA)
    static void makeOfNoReplica(Edges e) {
        for (int none : Edges.notBelow(3)) {
            e.refused("make of " + none, Scenes::busy, Edges.NO_SUCH, x -> x.make(none, 5));
        }
        e.refused("make of 8 among 8", Scenes::full, Edges.NO_SUCH, x -> x.make(8, 5));
    }

    @Says(in = "Promise 2", value = NO_WEIGHT)
    static void makeOfTheLeastAndTheGreatestWeight(Edges e) {
        ChangeSync x = new ChangeSync(2, 16);
        e.due("weight 1", x.make(0, 1), 1);
        e.due("it is", x.weight(0, 1), 1);
        e.due("weight 400", x.make(0, 400), 2);
        e.due("it is", x.weight(0, 2), 400);
    }

    @Says(in = "Promise 2", value = NO_WEIGHT)
    static void makeOfTooSmallAWeight(Edges e) {
        for (int weight : new int[] {0, -1, -400, Integer.MIN_VALUE + 1, Integer.MIN_VALUE}) {
            e.refused("weight " + weight, Scenes::busy, Edges.BAD_ARGUMENT, x -> x.make(0, weight));
        }
    }

    @Says(in = "Promise 2", value = NO_WEIGHT)
    static void makeOfTooLargeAWeight(Edges e) {
        for (int weight : new int[] {401, 402, 65537, Integer.MAX_VALUE - 1, Integer.MAX_VALUE}) {
            e.refused("weight " + weight, Scenes::busy, Edges.BAD_ARGUMENT, x -> x.make(0, weight));
        }
    }

    @Says(in = "Promise 2", value = DOWN_OR_60)
    static void makeOfOneDown(Edges e) {
        e.refused("make", Scenes::busy, Edges.BAD_STATE, x -> x.make(1, 5));
        ChangeSync x = Scenes.busy();
        x.up(1, true);
        e.due("UP again, its next SEQ", x.make(1, 5), 2);
    }

    @Says(in = "Promise 2", value = DOWN_OR_60)
    static void makeOfTheSixtieth(Edges e) {
        ChangeSync x = new ChangeSync(2, 16);
        for (int seq = 1; seq <= 59; seq++) {
            x.make(0, 2);
        }
        e.due("SEQ", x.make(0, 3), 60);
        e.due("LOG", x.log(0, 59), 8 * 60);
        e.due("CLOCK", x.clock(0), 60);
        e.due("weight", x.weight(0, 60), 3);
    }

    @Says(in = "Promise 2", value = DOWN_OR_60)
    static void makeOfTheSixtyFirst(Edges e) {
        e.refused("make", Scenes::made60, Edges.BAD_STATE, x -> x.make(0, 5));
        ChangeSync x = Scenes.made60();
        e.due("the other may", x.make(1, 5), 1);
    }

    @Says(in = "Promise 2", value = DOWN_OR_60)
    static void makeByOneThatHasSixtyOfAnother(Edges e) {
        ChangeSync x = Scenes.made60();
        Scenes.fetch(x, 1, 0);
        e.due("it has 60", x.clock(1), 60);
        e.due("its own first", x.make(1, 5), 1);
        for (int seq = 2; seq <= 60; seq++) {
            x.make(1, 5);
        }
        e.due("120 in its LOG", x.log(1, 119), 1 + 8 * 60);
    }

    @Says(in = "Promise 2", value = DOWN_OR_60)
    static void makeOfOneDownThatHasMadeSixty(Edges e) {
        Edges.Scene scene = () -> {
            ChangeSync x = Scenes.made60();
            x.up(0, false);
            return x;
        };
        e.refused("make", scene, Edges.BAD_STATE, x -> x.make(0, 5));
    }

    // ---- promise 3

    @Says(in = "Promise 3", value = TICKS)
    static void tickOfTheFirstAndTheLastReplica(Edges e) {
        for (int n : new int[] {2, 8}) {
            ChangeSync x = new ChangeSync(n, 16);
            e.due("of the first", x.tick(0), n - 1);
            e.due("its least receiver", x.message(0, 2), 1);
            e.due("its greatest receiver", x.message(n - 2, 2), n - 1);
            e.due("of the last", x.tick(n - 1), n - 1);
            e.due("its least receiver", x.message(n - 1, 2), 0);
            e.due("its greatest receiver", x.message(2 * n - 3, 2), n - 2);
            e.due("in FLIGHT", x.look(2), 2 * n - 2);
        }
    }

    @Says(in = "Promise 3", value = TICKS)
    static void tickPassesOverTheReplicaItself(Edges e) {
        ChangeSync x = new ChangeSync(4, 16);
        x.tick(2);
        int[] receivers = {0, 1, 3};
        for (int i = 0; i < receivers.length; i++) {
            e.due("sender", x.message(i, 1), 2);
            e.due("receiver", x.message(i, 2), receivers[i]);
        }
    }

    @Says(in = "Promise 3", value = TICKS)
    static void tickToOthersThatAreAllDown(Edges e) {
        ChangeSync x = new ChangeSync(3, 16);
        x.up(0, false);
        x.up(2, false);
        e.due("messages", x.tick(1), 2);
        e.due("first", x.message(0, 2), 0);
        e.due("second", x.message(1, 2), 2);
        e.due("none gone before it is delivered", x.look(5), 0);
    }

    @Says(in = "Promise 3", value = TICKS)
    static void tickOfOneWithoutChanges(Edges e) {
        ChangeSync x = new ChangeSync(2, 16);
        e.due("messages", x.tick(0), 1);
        e.due("told", x.told(0), 0);
    }

    @Says(in = "Promise 3", value = TICKS)
    static void tickWith120InFlight(Edges e) {
        ChangeSync x = Scenes.full();
        e.due("messages", x.tick(3), 7);
        e.due("in FLIGHT", x.look(2), 120);
        e.due("sent", x.look(3), 127);
        e.due("lost", x.look(4), 7);
        e.due("the last is as it was", x.message(119, 0), 119);
    }

    @Says(in = "Promise 3", value = TICKS)
    static void tickWithOnePlaceLeft(Edges e) {
        ChangeSync x = new ChangeSync(8, 16);
        Scenes.fill(x, 119);
        e.due("messages", x.tick(3), 7);
        e.due("in FLIGHT", x.look(2), 120);
        e.due("lost", x.look(4), 6);
        e.due("the least receiver's had room", x.message(119, 2), 0);
    }

    @Says(in = "Promise 3", value = TICKS)
    static void tickIntoAllPlacesThatAreLeft(Edges e) {
        ChangeSync x = new ChangeSync(8, 16);
        Scenes.fill(x, 113);
        e.due("messages", x.tick(3), 7);
        e.due("in FLIGHT", x.look(2), 120);
        e.due("lost", x.look(4), 0);
        e.due("the greatest receiver's had room", x.message(119, 2), 7);
    }

    @Says(in = "Promise 3", value = NO_REPLICA)
    static void tickOfNoReplica(Edges e) {
        for (int none : Edges.notBelow(3)) {
            e.refused("tick of " + none, Scenes::busy, Edges.NO_SUCH, x -> x.tick(none));
        }
        e.refused("tick of 8 among 8", Scenes::full, Edges.NO_SUCH, x -> x.tick(8));
    }

    @Says(in = "Promise 3", value = TICK_DOWN)
    static void tickOfOneDown(Edges e) {
        e.refused("tick", Scenes::busy, Edges.BAD_STATE, x -> x.tick(1));
        ChangeSync x = Scenes.busy();
        x.up(1, true);
        e.due("UP again", x.tick(1), 2);
    }

    @Says(in = "Promise 3", value = TICK_DOWN)
    static void tickOfOneDownWith120InFlight(Edges e) {
        Edges.Scene scene = () -> {
            ChangeSync x = Scenes.full();
            x.up(0, false);
            return x;
        };
        e.refused("tick", scene, Edges.BAD_STATE, x -> x.tick(0));
    }

    // ---- promise 7

    @Says(in = "Promise 7", value = UP)
    static void upOfOneUp(Edges e) {
        e.saysFalse("one that was never DOWN", Scenes::busy, x -> Edges.number(x.up(0, true)));
        ChangeSync x = Scenes.busy();
        e.due("one that was DOWN", x.up(1, true), true);
        e.due("and once more", x.up(1, true), false);
    }

    @Says(in = "Promise 7", value = UP)
    static void downOfOneDown(Edges e) {
        e.saysFalse("down", Scenes::busy, x -> Edges.number(x.up(1, false)));
    }

    @Says(in = "Promise 7", value = UP)
    static void upAndDownOfTheFirstAndTheLastReplica(Edges e) {
        ChangeSync x = new ChangeSync(8, 16);
        e.due("first down", x.up(0, false), true);
        e.due("last down", x.up(7, false), true);
        e.due("those between are UP", x.up(1, true) || x.up(6, true), false);
        e.due("first up", x.up(0, true), true);
        e.due("last up", x.up(7, true), true);
        e.due("it acts again", x.make(7, 1), 1);
    }

    @Says(in = "Promise 7", value = UP)
    static void upAndDownOfNoReplica(Edges e) {
        for (int none : Edges.notBelow(3)) {
            e.saysFalse("up of " + none, Scenes::busy, x -> Edges.number(x.up(none, true)));
            e.saysFalse("down of " + none, Scenes::busy, x -> Edges.number(x.up(none, false)));
        }
        e.saysFalse("down of 8 among 8", Scenes::full, x -> Edges.number(x.up(8, false)));
    }

    @Says(in = "Promise 7", value = STAYS)
    static void whatIsThereStaysWhenOneGoesDown(Edges e) {
        ChangeSync x = new ChangeSync(2, 16);
        x.make(0, 5);
        x.tick(0);
        x.tick(1);
        x.up(0, false);
        e.due("LOG", Scenes.log(x, 0), "8");
        e.due("CLOCK", x.clock(0), 1);
        e.due("from it and to it", Scenes.numbers(x), "0 1");
        x.up(0, true);
        e.due("LOG", Scenes.log(x, 0), "8");
        e.due("CLOCK", x.clock(0), 1);
        e.due("from it and to it", Scenes.numbers(x), "0 1");
        e.due("it answers", x.deliver(1), 1);
    }

    @Says(in = "Promise 7", value = STAYS)
    static void whatOneDownHadSentIsDelivered(Edges e) {
        ChangeSync x = new ChangeSync(2, 16);
        x.make(0, 5);
        x.tick(1);
        x.deliver(0);
        x.up(0, false);
        e.due("its PART", x.deliver(0), 1);
        x.make(1, 5);
        x.up(0, true);
        x.tick(0);
        x.up(0, false);
        e.due("its CLOCK is answered", x.deliver(0), 1);
    }
}
