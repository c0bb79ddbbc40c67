/** The boundaries of the promises on what the network does: deliver, lose and twice. */
public final class NetworkEdgesTest {
    private static final String DELIVERED = "The i-th message in FLIGHT is DELIVERED, and is there no more: how many "
            + "PARTS are sent by that (also those that are lost), or how many changes come to a LOG; "
            + "0 when the receiver is DOWN.";
    private static final String NO_MESSAGE = "IndexOutOfBoundsException if there is none such.";
    private static final String LOST = "The i-th message in FLIGHT is lost (those behind it have a place less): true; "
            + "false if there is none such.";
    private static final String TWICE = "The i-th message in FLIGHT is sent once more (as it is, with what it told, by "
            + "its sender, also if that is DOWN; it comes last, counts as sent, and is lost like others when 120 are "
            + "in FLIGHT): its new NUMBER.";

    public static void main(String[] args) {
        Edges.run(NetworkEdgesTest.class);
    }

    private static ChangeSync empty() {
        return new ChangeSync(3, 16);
    }

    /** Three CLOCKS of replica 0 among 4 replicas: NUMBERS 0, 1, 2. */
    private static ChangeSync three() {
        ChangeSync x = new ChangeSync(4, 16);
        x.tick(0);
        return x;
    }

    // ---- promise 4

    @Says(in = "Promise 4", value = NO_MESSAGE)
    static void deliverOfNothingInFlight(Edges e) {
        e.refused("deliver(0)", NetworkEdgesTest::empty, Edges.NO_SUCH, x -> x.deliver(0));
        ChangeSync x = new ChangeSync(2, 16);
        x.tick(0);
        x.deliver(0);
        e.due("after the only one", Checks.outcome(() -> x.deliver(0)), "throws IndexOutOfBoundsException");
    }

    @Says(in = "Promise 4", value = NO_MESSAGE)
    static void deliverOfNoMessage(Edges e) {
        for (int none : Edges.notBelow(2)) {
            e.refused("deliver " + none, Scenes::busy, Edges.NO_SUCH, x -> x.deliver(none));
        }
    }

    @Says(in = "Promise 4", value = NO_MESSAGE)
    static void deliverOfNoMessageWith120InFlight(Edges e) {
        e.refused("deliver 120", Scenes::full, Edges.NO_SUCH, x -> x.deliver(120));
        e.refused("deliver -1", Scenes::full, Edges.NO_SUCH, x -> x.deliver(-1));
    }

    @Says(in = "Promise 4", value = DELIVERED)
    static void deliverOfTheFirstAndTheLast(Edges e) {
        ChangeSync x = three();
        x.deliver(0);
        e.due("the first is there no more", Scenes.numbers(x), "1 2");
        x.deliver(1);
        e.due("the last is there no more", Scenes.numbers(x), "1");
        x.deliver(0);
        e.due("the only one is there no more", Scenes.numbers(x), "");
        e.due("none of them is lost", x.look(4), 0);
        e.due("none of them is gone", x.look(5), 0);
    }

    @Says(in = "Promise 4", value = DELIVERED)
    static void deliverOfOneInTheMiddle(Edges e) {
        ChangeSync x = three();
        x.deliver(1);
        e.due("those behind it have a place less", Scenes.numbers(x), "0 2");
    }

    @Says(in = "Promise 4", value = DELIVERED)
    static void deliverOfTheLastOf120(Edges e) {
        ChangeSync x = Scenes.full();
        x.deliver(119);
        e.due("in FLIGHT", x.look(2), 119);
        e.due("the last now", x.message(118, 0), 118);
        e.due("told of the place behind it", x.told(119), -1);
    }

    @Says(in = "Promise 4", value = DELIVERED)
    static void deliverOfAClockTellsPartsAndNotChanges(Edges e) {
        ChangeSync x = new ChangeSync(2, 16);
        Scenes.make(x, 1, 6, 7, 6, 7);
        x.tick(0);
        e.due("4 changes in 2 PARTS", x.deliver(0), 2);
        e.due("2 changes of a PART", x.deliver(0), 2);
    }

    @Says(in = "Promise 4", value = DELIVERED)
    static void deliverOfAClockThatLacksNothing(Edges e) {
        ChangeSync x = Scenes.made60();
        x.tick(0);
        e.due("no PART", x.deliver(0), 0);
        e.due("it is there no more", x.look(2), 0);
        e.due("not gone", x.look(5), 0);
    }

    @Says(in = "Promise 4", value = DELIVERED)
    static void deliverOfAPartWhoseChangesAreAllThere(Edges e) {
        ChangeSync x = Scenes.made60();
        x.tick(1);
        x.twice(0);
        x.deliver(0);
        x.deliver(0);
        int parts = x.look(2) / 2;
        e.due("60 changes of weight 2, 6 in each", parts, 10);
        for (int i = 0; i < parts; i++) {
            e.due("6 come", x.deliver(0), 6);
        }
        for (int i = 0; i < parts; i++) {
            e.due("none comes", x.deliver(0), 0);
        }
        e.due("passed over", x.look(6), 60);
        e.due("nothing more in FLIGHT", x.look(2), 0);
    }

    @Says(in = "Promise 4", value = DELIVERED)
    static void deliverOfAPartSendsNothing(Edges e) {
        ChangeSync x = new ChangeSync(2, 16);
        x.make(1, 5);
        x.tick(0);
        x.deliver(0);
        x.deliver(0);
        e.due("sent", x.look(3), 2);
        e.due("in FLIGHT", x.look(2), 0);
    }

    @Says(in = "Promise 4", value = DELIVERED)
    static void deliverCountsPartsThatAreLost(Edges e) {
        ChangeSync x = Scenes.full();
        x.lose(0);
        x.lose(0);
        x.tick(7);
        e.due("120 again", x.look(2), 120);
        int lost = x.look(4);
        e.due("PARTS", x.deliver(4), 3);
        e.due("two of them are lost", x.look(4), lost + 2);
    }

    @Says(in = "Promise 4", value = DELIVERED)
    static void deliverOfAClockWith120InFlightLeavesItsPlace(Edges e) {
        ChangeSync x = Scenes.full();
        e.due("PARTS", x.deliver(6), 3);
        e.due("in FLIGHT", x.look(2), 120);
        e.due("sent", x.look(3), 123);
        e.due("lost", x.look(4), 2);
        e.due("the first PART has the place", Scenes.part(x, 119), "16[15]");
        e.due("behind the others", x.message(118, 0), 119);
    }

    @Says(in = "Promise 4", value = DELIVERED)
    static void deliverOfAClockWithJustRoomForItsAnswer(Edges e) {
        ChangeSync x = new ChangeSync(8, 16);
        Scenes.make(x, 7, 13, 13, 13);
        Scenes.fill(x, 118);
        e.due("PARTS", x.deliver(6), 3);
        e.due("in FLIGHT", x.look(2), 120);
        e.due("none lost", x.look(4), 0);
        e.due("the third PART is there", Scenes.part(x, 119), "16[31]");
    }

    @Says(in = "Promise 4", value = DELIVERED)
    static void deliverOfAPartWith120InFlight(Edges e) {
        ChangeSync x = new ChangeSync(8, 16);
        x.make(7, 13);
        x.tick(0);
        x.deliver(6);
        Scenes.fill(x, 120);
        e.due("its change comes", x.deliver(6), 1);
        e.due("in FLIGHT", x.look(2), 119);
        e.due("none lost", x.look(4), 0);
    }

    @Says(in = "Promise 4", value = DELIVERED)
    static void deliverOfAClockToOneDown(Edges e) {
        ChangeSync x = Scenes.full();
        x.up(7, false);
        e.due("0 though there is an answer", x.deliver(6), 0);
        e.due("it is there no more", x.look(2), 119);
        e.due("no PART is sent", x.look(3), 120);
        e.due("gone", x.look(5), 1);
        e.due("not lost", x.look(4), 0);
    }

    @Says(in = "Promise 4", value = DELIVERED)
    static void deliverOfAPartToOneDown(Edges e) {
        ChangeSync x = new ChangeSync(2, 100);
        Scenes.make(x, 1, 5, 5);
        x.tick(0);
        x.deliver(0);
        x.up(0, false);
        e.due("0 though two would come", x.deliver(0), 0);
        e.due("it is there no more", x.look(2), 0);
        e.due("one message gone, not two", x.look(5), 1);
        e.due("none passed over", x.look(6), 0);
        e.due("its LOG", Scenes.log(x, 0), "");
    }

    @Says(in = "Promise 4", value = DELIVERED)
    static void deliverFromOneDown(Edges e) {
        ChangeSync x = new ChangeSync(2, 16);
        x.make(1, 5);
        x.tick(0);
        x.up(0, false);
        e.due("its CLOCK is answered", x.deliver(0), 1);
        e.due("to it", x.message(0, 2), 0);
        e.due("none gone", x.look(5), 0);
    }

    // ---- promise 5

    @Says(in = "Promise 5", value = LOST)
    static void loseOfNothingInFlight(Edges e) {
        e.saysFalse("lose(0)", NetworkEdgesTest::empty, x -> Edges.number(x.lose(0)));
        ChangeSync x = new ChangeSync(2, 16);
        x.tick(0);
        x.lose(0);
        e.due("after the only one", x.lose(0), false);
        e.due("lost", x.look(4), 1);
    }

    @Says(in = "Promise 5", value = LOST)
    static void loseOfNoMessage(Edges e) {
        for (int none : Edges.notBelow(2)) {
            e.saysFalse("lose " + none, Scenes::busy, x -> Edges.number(x.lose(none)));
        }
    }

    @Says(in = "Promise 5", value = LOST)
    static void loseOfNoMessageWith120InFlight(Edges e) {
        e.saysFalse("lose 120", Scenes::full, x -> Edges.number(x.lose(120)));
        e.saysFalse("lose -1", Scenes::full, x -> Edges.number(x.lose(-1)));
    }

    @Says(in = "Promise 5", value = LOST)
    static void loseOfTheFirst(Edges e) {
        ChangeSync x = three();
        e.due("lose", x.lose(0), true);
        e.due("those behind it have a place less", Scenes.numbers(x), "1 2");
        e.due("lost", x.look(4), 1);
        e.due("sent", x.look(3), 3);
    }

    @Says(in = "Promise 5", value = LOST)
    static void loseOfOneInTheMiddle(Edges e) {
        ChangeSync x = three();
        e.due("lose", x.lose(1), true);
        e.due("the one behind it has a place less", Scenes.numbers(x), "0 2");
    }

    @Says(in = "Promise 5", value = LOST)
    static void loseOfTheLast(Edges e) {
        ChangeSync x = three();
        e.due("lose", x.lose(2), true);
        e.due("the others stay", Scenes.numbers(x), "0 1");
        e.due("no such place now", x.lose(2), false);
    }

    @Says(in = "Promise 5", value = LOST)
    static void loseOfTheFirstAndTheLastOf120(Edges e) {
        ChangeSync x = Scenes.full();
        e.due("the last", x.lose(119), true);
        e.due("the first", x.lose(0), true);
        e.due("in FLIGHT", x.look(2), 118);
        e.due("the first now", x.message(0, 0), 1);
        e.due("the last now", x.message(117, 0), 118);
        x.twice(0);
        x.twice(0);
        e.due("two have room again", x.look(2), 120);
        e.due("lost", x.look(4), 2);
    }

    @Says(in = "Promise 5", value = LOST)
    static void loseOfOneToAReplicaThatIsDown(Edges e) {
        ChangeSync x = three();
        x.up(1, false);
        e.due("lose", x.lose(0), true);
        e.due("lost", x.look(4), 1);
        e.due("not gone", x.look(5), 0);
    }

    // ---- promise 6

    @Says(in = "Promise 6", value = NO_MESSAGE)
    static void twiceOfNothingInFlight(Edges e) {
        e.refused("twice(0)", NetworkEdgesTest::empty, Edges.NO_SUCH, x -> x.twice(0));
    }

    @Says(in = "Promise 6", value = NO_MESSAGE)
    static void twiceOfNoMessage(Edges e) {
        for (int none : Edges.notBelow(2)) {
            e.refused("twice " + none, Scenes::busy, Edges.NO_SUCH, x -> x.twice(none));
        }
    }

    @Says(in = "Promise 6", value = NO_MESSAGE)
    static void twiceOfNoMessageWith120InFlight(Edges e) {
        e.refused("twice 120", Scenes::full, Edges.NO_SUCH, x -> x.twice(120));
        e.refused("twice -1", Scenes::full, Edges.NO_SUCH, x -> x.twice(-1));
    }

    @Says(in = "Promise 6", value = TWICE)
    static void twiceOfTheFirstAndTheLast(Edges e) {
        ChangeSync x = three();
        e.due("the first", x.twice(0), 3);
        e.due("its receiver", x.message(3, 2), 1);
        e.due("the last, which is one sent once more", x.twice(3), 4);
        e.due("its receiver", x.message(4, 2), 1);
        e.due("they come last", Scenes.numbers(x), "0 1 2 3 4");
        e.due("they count as sent", x.look(3), 5);
    }

    @Says(in = "Promise 6", value = TWICE)
    static void twiceIntoPlace120(Edges e) {
        ChangeSync x = new ChangeSync(8, 16);
        Scenes.fill(x, 119);
        e.due("NUMBER", x.twice(4), 119);
        e.due("in FLIGHT", x.look(2), 120);
        e.due("it is there", x.message(119, 2), 5);
        e.due("none lost", x.look(4), 0);
    }

    @Says(in = "Promise 6", value = TWICE)
    static void twiceWith120InFlight(Edges e) {
        ChangeSync x = Scenes.full();
        e.due("NUMBER", x.twice(4), 120);
        e.due("in FLIGHT", x.look(2), 120);
        e.due("sent", x.look(3), 121);
        e.due("lost", x.look(4), 1);
        e.due("the one that was sent before stays", x.message(4, 0), 4);
        e.due("the last stays", x.message(119, 0), 119);
        e.due("the next NUMBER", x.twice(119), 121);
    }

    @Says(in = "Promise 6", value = TWICE)
    static void twiceTellsWhatWasToldAndNotTheClockOfNow(Edges e) {
        ChangeSync x = new ChangeSync(2, 16);
        x.make(0, 1);
        x.tick(0);
        Scenes.make(x, 0, 1, 1);
        x.twice(0);
        e.due("told", x.told(1), 1);
        e.due("bytes", x.message(1, 3), 5);
        e.due("a CLOCK", x.message(1, 4), -1);
    }

    @Says(in = "Promise 6", value = TWICE)
    static void twiceOfAPart(Edges e) {
        ChangeSync x = new ChangeSync(2, 16);
        Scenes.make(x, 1, 6, 7);
        x.tick(0);
        x.deliver(0);
        x.make(1, 1);
        e.due("NUMBER", x.twice(0), 2);
        e.due("the same inside", Scenes.part(x, 1), "16[9 17]");
        e.due("no CLOCK", x.told(1), -1);
        e.due("sender", x.message(1, 1), 1);
        e.due("receiver", x.message(1, 2), 0);
    }

    @Says(in = "Promise 6", value = TWICE)
    static void twiceOfAPartAboveM(Edges e) {
        ChangeSync x = new ChangeSync(2, 16);
        x.make(1, 400);
        x.tick(0);
        x.deliver(0);
        x.twice(0);
        e.due("the same inside", Scenes.part(x, 1), "403[9]");
    }

    @Says(in = "Promise 6", value = TWICE)
    static void twiceFromOneDown(Edges e) {
        ChangeSync x = new ChangeSync(2, 16);
        x.make(1, 5);
        x.tick(0);
        x.deliver(0);
        x.tick(0);
        x.up(0, false);
        x.up(1, false);
        e.due("its PART", x.twice(0), 3);
        e.due("sender", x.message(2, 1), 1);
        e.due("its CLOCK", x.twice(1), 4);
        e.due("sender", x.message(3, 1), 0);
        e.due("none is gone by that", x.look(5), 0);
    }

    @Says(in = "Promise 6", value = TWICE)
    static void twiceLeavesTheFirstOneThere(Edges e) {
        ChangeSync x = new ChangeSync(2, 16);
        x.make(1, 5);
        x.tick(0);
        x.deliver(0);
        x.twice(0);
        e.due("the first one's change comes", x.deliver(0), 1);
        e.due("the other is still there", Scenes.part(x, 0), "8[9]");
        e.due("and brings nothing", x.deliver(0), 0);
    }
}
