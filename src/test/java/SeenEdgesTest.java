/** The boundaries of the promises on what can be seen: message, inside, told, clock, log, weight, lacks, look. */
public final class SeenEdgesTest {
    private static final String MESSAGE = "Of the i-th message in FLIGHT: w = 0: its NUMBER, 1: sender, 2: receiver, "
            + "3: BYTES, 4: how many changes (1 or more), NONE for a CLOCK.";
    private static final String NO_MESSAGE = "IndexOutOfBoundsException if there is none such, or no such w.";
    private static final String INSIDE = "Change k of the i-th message in FLIGHT: actor + 8 * SEQ; "
            + "NONE if there is none such.";
    private static final String TOLD = "The CLOCK (of its sender, as it was when it was sent) that the i-th message in "
            + "FLIGHT tells; -1 if there is none such, or it is none.";
    private static final String NO_REPLICA = "IndexOutOfBoundsException if there is no such replica.";
    private static final String CLOCK = "A replica's CLOCK.";
    private static final String LOG = "Change k of a replica's LOG, from 0 on: actor + 8 * SEQ; "
            + "NONE if there is none such.";
    private static final String WEIGHT = "The WEIGHT of a change that was made; NONE if there is none such.";
    private static final String LACKS = "How many changes were made that a replica does not have.";

    public static void main(String[] args) {
        Edges.run(SeenEdgesTest.class);
    }

    private static ChangeSync empty() {
        return new ChangeSync(3, 16);
    }

    private static void none(Edges e, String what, Edges.Scene scene, Edges.Call call) {
        e.due(what, Checks.outcome(() -> call.on(scene.set())), "-1");
        e.changesNothing(what, scene, call);
    }

    // ---- promise 8

    @Says(in = "Promise 8", value = MESSAGE)
    static void messageFirstAndLastW(Edges e) {
        ChangeSync x = Scenes.busy();
        int[][] due = {{1, 2, 1, 6, -1}, {4, 0, 2, 13, 1}};
        for (int i = 0; i < 2; i++) {
            for (int w = 0; w <= 4; w++) {
                e.due("message " + i + ", w " + w, x.message(i, w), due[i][w]);
            }
        }
    }

    @Says(in = "Promise 8", value = MESSAGE)
    static void messageFirstAndLastOf120(Edges e) {
        ChangeSync x = Scenes.full();
        e.due("the first", x.message(0, 0), 0);
        e.due("the last", x.message(119, 0), 119);
        e.due("the last's receiver", x.message(119, 2), 1);
    }

    @Says(in = "Promise 8", value = MESSAGE)
    static void messageWithOneChangeAndWithMost(Edges e) {
        ChangeSync x = new ChangeSync(2, 16);
        x.make(1, 1);
        x.tick(0);
        x.deliver(0);
        e.due("one change", x.message(0, 4), 1);
        ChangeSync y = Scenes.all480();
        y.tick(1);
        y.deliver(0);
        e.due("all that one can lack", y.message(6, 4), 420);
    }

    @Says(in = "Promise 8", value = NO_MESSAGE)
    static void messageOfNothingInFlight(Edges e) {
        for (int w = 0; w <= 4; w++) {
            int item = w;
            e.refused("w " + w, SeenEdgesTest::empty, Edges.NO_SUCH, x -> x.message(0, item));
        }
    }

    @Says(in = "Promise 8", value = NO_MESSAGE)
    static void messageOfNoMessage(Edges e) {
        for (int none : Edges.notBelow(2)) {
            e.refused("message " + none, Scenes::busy, Edges.NO_SUCH, x -> x.message(none, 0));
        }
        e.refused("message 120 of 120", Scenes::full, Edges.NO_SUCH, x -> x.message(120, 0));
    }

    @Says(in = "Promise 8", value = NO_MESSAGE)
    static void messageOfNoW(Edges e) {
        for (int none : Edges.notBelow(5)) {
            e.refused("a CLOCK's w " + none, Scenes::busy, Edges.NO_SUCH, x -> x.message(0, none));
            e.refused("a PART's w " + none, Scenes::busy, Edges.NO_SUCH, x -> x.message(1, none));
        }
    }

    @Says(in = "Promise 8", value = NO_MESSAGE)
    static void messageOfNeitherMessageNorW(Edges e) {
        e.refused("both too large", Scenes::busy, Edges.NO_SUCH, x -> x.message(2, 5));
        e.refused("both too small", Scenes::busy, Edges.NO_SUCH, x -> x.message(-1, -1));
        e.refused("nothing in FLIGHT", SeenEdgesTest::empty, Edges.NO_SUCH, x -> x.message(0, 5));
    }

    // ---- promise 9

    @Says(in = "Promise 9", value = INSIDE)
    static void insideFirstAndLastK(Edges e) {
        ChangeSync x = new ChangeSync(8, 2000);
        Scenes.make60(x, 7, 1);
        x.tick(0);
        x.deliver(6);
        e.due("k 0", x.inside(6, 0), 7 + 8);
        e.due("k 59, the greatest change", x.inside(6, 59), 7 + 8 * 60);
        e.due("k 60", x.inside(6, 60), -1);
        e.due("k -1", x.inside(6, -1), -1);
    }

    @Says(in = "Promise 9", value = INSIDE)
    static void insideTheLeastChange(Edges e) {
        ChangeSync x = new ChangeSync(2, 16);
        x.make(0, 1);
        x.tick(1);
        x.deliver(0);
        e.due("actor 0, SEQ 1", x.inside(0, 0), 8);
    }

    @Says(in = "Promise 9", value = INSIDE)
    static void insideNoK(Edges e) {
        for (int none : Edges.notBelow(1)) {
            none(e, "k " + none, Scenes::busy, x -> x.inside(1, none));
        }
    }

    @Says(in = "Promise 9", value = INSIDE)
    static void insideAClock(Edges e) {
        for (int k : new int[] {Integer.MIN_VALUE, -1, 0, 1, Integer.MAX_VALUE}) {
            none(e, "k " + k, Scenes::busy, x -> x.inside(0, k));
        }
    }

    @Says(in = "Promise 9", value = INSIDE)
    static void insideNoMessage(Edges e) {
        for (int none : Edges.notBelow(2)) {
            none(e, "message " + none, Scenes::busy, x -> x.inside(none, 0));
        }
        none(e, "neither message nor k", Scenes::busy, x -> x.inside(2, -1));
        none(e, "nothing in FLIGHT", SeenEdgesTest::empty, x -> x.inside(0, 0));
    }

    @Says(in = "Promise 9", value = INSIDE)
    static void insideAPlaceThatIsFreeAgain(Edges e) {
        ChangeSync x = new ChangeSync(2, 16);
        x.make(1, 1);
        x.tick(0);
        x.deliver(0);
        e.due("before", x.inside(0, 0), 9);
        x.deliver(0);
        e.due("after it is delivered", x.inside(0, 0), -1);
    }

    // ---- promise 10

    @Says(in = "Promise 10", value = TOLD)
    static void toldOfNoMessage(Edges e) {
        for (int none : Edges.notBelow(2)) {
            none(e, "told " + none, Scenes::busy, x -> x.told(none));
        }
        none(e, "told 120 of 120", Scenes::full, x -> x.told(120));
        none(e, "nothing in FLIGHT", SeenEdgesTest::empty, x -> x.told(0));
    }

    @Says(in = "Promise 10", value = TOLD)
    static void toldOfAPart(Edges e) {
        none(e, "told", Scenes::busy, x -> x.told(1));
    }

    @Says(in = "Promise 10", value = TOLD)
    static void toldOfAClockOfNothing(Edges e) {
        e.due("told", Scenes.busy().told(0), 0);
    }

    @Says(in = "Promise 10", value = TOLD)
    static void toldFirstAndLastOf120(Edges e) {
        ChangeSync x = new ChangeSync(2, 16);
        x.make(0, 1);
        Scenes.fill(x, 119);
        x.make(0, 1);
        x.tick(0);
        e.due("the first", x.told(0), 1);
        e.due("the last", x.told(119), 2);
    }

    @Says(in = "Promise 10", value = TOLD)
    static void toldStaysWhenTheSendersClockGoesOn(Edges e) {
        ChangeSync x = new ChangeSync(2, 16);
        x.make(0, 1);
        x.tick(0);
        x.make(0, 1);
        x.make(1, 1);
        x.tick(0);
        e.due("before", x.told(0), 1);
        e.due("after", x.told(1), 2);
        x.up(0, false);
        e.due("DOWN", x.told(0), 1);
    }

    // ---- promise 11

    @Says(in = "Promise 11", value = NO_REPLICA)
    static void clockOfNoReplica(Edges e) {
        for (int none : Edges.notBelow(3)) {
            e.refused("clock " + none, Scenes::busy, Edges.NO_SUCH, x -> x.clock(none));
        }
        e.refused("clock 8 of 8", Scenes::full, Edges.NO_SUCH, x -> x.clock(8));
    }

    @Says(in = "Promise 11", value = CLOCK)
    static void clockOfTheFirstAndTheLastReplica(Edges e) {
        ChangeSync x = new ChangeSync(8, 16);
        x.make(0, 1);
        x.make(7, 1);
        e.due("first", x.clock(0), 1);
        e.due("last", x.clock(7), 1L << 56);
        e.due("one between", x.clock(3), 0);
    }

    @Says(in = "Promise 11", value = CLOCK)
    static void clockOfOneDown(Edges e) {
        e.due("clock", Scenes.busy().clock(1), 0x100);
    }

    // ---- promise 12

    @Says(in = "Promise 12", value = LOG)
    static void logFirstAndLastK(Edges e) {
        ChangeSync x = Scenes.busy();
        e.due("k 0", x.log(0, 0), 8);
        e.due("the last k", x.log(0, 1), 16);
        e.due("the k behind it", x.log(0, 2), -1);
        e.due("of one DOWN", x.log(1, 0), 9);
    }

    @Says(in = "Promise 12", value = LOG)
    static void logOfMostChanges(Edges e) {
        ChangeSync x = Scenes.all480();
        e.due("k 0", x.log(0, 0), 8);
        e.due("k 479", x.log(0, 479), 7 + 8 * 60);
        e.due("k 480", x.log(0, 480), -1);
        e.due("of the last replica", x.log(7, 59), 7 + 8 * 60);
        e.due("its k 60", x.log(7, 60), -1);
    }

    @Says(in = "Promise 12", value = LOG)
    static void logOfNoChanges(Edges e) {
        none(e, "k 0", SeenEdgesTest::empty, x -> x.log(0, 0));
        none(e, "k 0 of the last", SeenEdgesTest::empty, x -> x.log(2, 0));
    }

    @Says(in = "Promise 12", value = LOG)
    static void logOfNoK(Edges e) {
        for (int none : Edges.notBelow(2)) {
            none(e, "k " + none, Scenes::busy, x -> x.log(0, none));
        }
    }

    @Says(in = "Promise 12", value = LOG)
    static void logOfNoReplica(Edges e) {
        for (int none : Edges.notBelow(3)) {
            none(e, "replica " + none, Scenes::busy, x -> x.log(none, 0));
        }
        none(e, "neither replica nor k", Scenes::busy, x -> x.log(3, -1));
    }

    // ---- promise 13

    @Says(in = "Promise 13", value = WEIGHT)
    static void weightFirstAndLastSeq(Edges e) {
        ChangeSync x = Scenes.busy();
        e.due("SEQ 0", x.weight(0, 0), -1);
        e.due("SEQ 1", x.weight(0, 1), 10);
        e.due("SEQ 2", x.weight(0, 2), 9);
        e.due("SEQ 3", x.weight(0, 3), -1);
        e.due("of one DOWN", x.weight(1, 1), 5);
        e.due("of one that made none, but has one", x.weight(2, 1), -1);
    }

    @Says(in = "Promise 13", value = WEIGHT)
    static void weightOfTheSixtieth(Edges e) {
        ChangeSync x = new ChangeSync(8, 16);
        for (int seq = 1; seq <= 60; seq++) {
            x.make(7, 340 + seq);
        }
        e.due("SEQ 1", x.weight(7, 1), 341);
        e.due("SEQ 60", x.weight(7, 60), 400);
        e.due("SEQ 61", x.weight(7, 61), -1);
    }

    @Says(in = "Promise 13", value = WEIGHT)
    static void weightOfNoSeq(Edges e) {
        for (int none : new int[] {Integer.MIN_VALUE, Integer.MIN_VALUE + 1, -256, -1, 0,
            3, 4, 60, 61, 257, Integer.MAX_VALUE - 1, Integer.MAX_VALUE}) {
            none(e, "SEQ " + none, Scenes::busy, x -> x.weight(0, none));
        }
    }

    @Says(in = "Promise 13", value = WEIGHT)
    static void weightOfNoActor(Edges e) {
        for (int none : Edges.notBelow(3)) {
            none(e, "actor " + none, Scenes::busy, x -> x.weight(none, 1));
        }
        none(e, "neither actor nor SEQ", Scenes::busy, x -> x.weight(-1, 0));
    }

    @Says(in = "Promise 13", value = WEIGHT)
    static void weightOfAChangeThatWasRefused(Edges e) {
        ChangeSync x = Scenes.made60();
        e.due("refused", Checks.outcome(() -> x.make(0, 7)), "throws IllegalStateException");
        e.due("SEQ 60", x.weight(0, 60), 2);
        e.due("SEQ 61", x.weight(0, 61), -1);
    }

    // ---- promise 14

    @Says(in = "Promise 14", value = NO_REPLICA)
    static void lacksOfNoReplica(Edges e) {
        for (int none : Edges.notBelow(3)) {
            e.refused("lacks " + none, Scenes::busy, Edges.NO_SUCH, x -> x.lacks(none));
        }
        e.refused("lacks 8 of 8", Scenes::full, Edges.NO_SUCH, x -> x.lacks(8));
    }

    @Says(in = "Promise 14", value = LACKS)
    static void lacksNothingAndMost(Edges e) {
        ChangeSync x = new ChangeSync(2, 16);
        e.due("none made", x.lacks(0), 0);
        x.make(0, 1);
        e.due("the maker", x.lacks(0), 0);
        e.due("the other", x.lacks(1), 1);
        ChangeSync y = Scenes.all480();
        e.due("one that has all 480", y.lacks(0), 0);
        e.due("one that has its own", y.lacks(1), 420);
    }

    @Says(in = "Promise 14", value = LACKS)
    static void lacksOfTheFirstTheLastAndOneDown(Edges e) {
        ChangeSync x = Scenes.busy();
        e.due("first", x.lacks(0), 1);
        e.due("DOWN", x.lacks(1), 2);
        e.due("last", x.lacks(2), 2);
    }

    // ---- promise 15

    @Says(in = "Promise 15", value = "NONE for any other which.")
    static void lookAtNoWhich(Edges e) {
        for (int none : Edges.notBelow(9)) {
            none(e, "look " + none, Scenes::busy, x -> x.look(none));
        }
    }

    @Says(in = "Promise 15", value = "which 0: N, 1: M, 2: messages in FLIGHT, 3: sent, 4: lost")
    static void lookAtANewObject(Edges e) {
        ChangeSync x = new ChangeSync(8, 2000);
        int[] due = {8, 2000, 0, 0, 0, 0, 0, 8, 0};
        for (int which = 0; which <= 8; which++) {
            e.due("which " + which, x.look(which), due[which]);
        }
    }

    @Says(in = "Promise 15", value = "which 0: N, 1: M, 2: messages in FLIGHT, 3: sent, 4: lost")
    static void lookFromTheFirstToTheLastWhich(Edges e) {
        ChangeSync x = Scenes.busy();
        int[] due = {3, 20, 2, 7, 1, 1, 1, 0, 19};
        for (int which = 0; which <= 8; which++) {
            e.due("which " + which, x.look(which), due[which]);
        }
    }

    @Says(in = "Promise 15", value = "2: messages in FLIGHT, 3: sent")
    static void lookWith120InFlight(Edges e) {
        ChangeSync x = Scenes.full();
        e.due("in FLIGHT", x.look(2), 120);
        e.due("sent", x.look(3), 120);
        x.twice(0);
        e.due("in FLIGHT", x.look(2), 120);
        e.due("sent, a lost one too", x.look(3), 121);
    }

    @Says(in = "Promise 15", value = "4: lost (by lose(), or as there was no room)")
    static void lookAtLostInBothWays(Edges e) {
        ChangeSync x = Scenes.full();
        x.twice(0);
        e.due("no room", x.look(4), 1);
        x.lose(5);
        e.due("lose()", x.look(4), 2);
        x.deliver(0);
        e.due("one that is delivered is not", x.look(4), 2);
        x.up(2, false);
        x.deliver(0);
        e.due("one that is gone is not", x.look(4), 2);
    }

    @Says(in = "Promise 15", value = "5: gone as the receiver was DOWN")
    static void lookAtGoneOnlyWhenTheReceiverIsDown(Edges e) {
        ChangeSync x = Scenes.full();
        x.up(0, false);
        x.up(2, false);
        x.deliver(0);
        e.due("the sender was DOWN", x.look(5), 0);
        x.deliver(0);
        e.due("the receiver was DOWN", x.look(5), 1);
        x.lose(6);
        e.due("one that is lost is not", x.look(5), 1);
    }

    @Says(in = "Promise 15", value = "6: changes that were passed over")
    static void lookAtPassedOverCountsChanges(Edges e) {
        ChangeSync x = new ChangeSync(2, 100);
        Scenes.make(x, 1, 1, 1, 1);
        x.tick(0);
        x.deliver(0);
        x.twice(0);
        x.deliver(0);
        e.due("all came", x.look(6), 0);
        x.deliver(0);
        e.due("three of one PART", x.look(6), 3);
    }

    @Says(in = "Promise 15", value = "7: replicas (DOWN ones, too) that have all changes that were made")
    static void lookAtReplicasWithAllFromNoneToEach(Edges e) {
        ChangeSync x = new ChangeSync(2, 16);
        e.due("none made: each", x.look(7), 2);
        x.make(0, 1);
        e.due("the maker", x.look(7), 1);
        x.make(1, 1);
        e.due("none", x.look(7), 0);
        Scenes.fetch(x, 0, 1);
        Scenes.fetch(x, 1, 0);
        e.due("each again", x.look(7), 2);
    }

    @Says(in = "Promise 15", value = "7: replicas (DOWN ones, too) that have all changes that were made")
    static void lookAtReplicasWithAllThatAreDown(Edges e) {
        ChangeSync x = new ChangeSync(3, 16);
        x.up(1, false);
        e.due("none made", x.look(7), 3);
        x.make(0, 1);
        x.up(0, false);
        e.due("the maker is DOWN", x.look(7), 1);
    }

    @Says(in = "Promise 15", value = "8: BYTES in FLIGHT")
    static void lookAtBytesFromNothingToAFullFlight(Edges e) {
        ChangeSync x = new ChangeSync(2, 16);
        e.due("nothing in FLIGHT", x.look(8), 0);
        Scenes.make60(x, 0, 400);
        x.tick(1);
        e.due("a CLOCK", x.look(8), 5);
        x.twice(0);
        x.deliver(0);
        x.deliver(0);
        e.due("120 PARTS", x.look(8), 120 * 403);
        x.twice(0);
        e.due("a lost one adds none", x.look(8), 120 * 403);
        x.lose(119);
        e.due("119 PARTS", x.look(8), 119 * 403);
        x.deliver(0);
        e.due("118 PARTS", x.look(8), 118 * 403);
    }
}
