/** The boundaries that the document names before its promises, and in its section 'Terms'. */
public final class TermsEdgesTest {
    private static final String ANSWERS = "all changes of its LOG that this CLOCK lacks (their SEQ is above the "
            + "CLOCK's for their actor), in the order of the LOG, in PARTS, one sent behind the other";
    private static final String TAKES_NEXT =
            "a PART takes the next change as long as its BYTES would not be above M then";
    private static final String TAKES_FIRST = "the first one it always takes (also above M)";
    private static final String NO_PART = "No PART is sent if there is nothing.";
    private static final String COMES = "one whose SEQ is 1 more than its CLOCK tells for the actor comes to its LOG";
    private static final String PASSED = "any other one (there already, or too early) is passed over";
    private static final String DOES_NOTHING = "A replica that is DOWN does nothing";
    private static final String IS_GONE = "what is DELIVERED to it is gone";
    private static final String LOST = "A message that is sent while 120 are in FLIGHT is lost (it has a NUMBER, too).";
    private static final String REFUSED = "What throws, or answers false, changes nothing.";
    private static final String FIRST_LISTED = "Of several exceptions the first one listed is thrown.";

    public static void main(String[] args) {
        Edges.run(TermsEdgesTest.class);
    }

    // ---- how long an object is used

    @Says(in = "What it is", value = "An object is used for at most 512 calls after it has been made")
    static void call512IsAnswered(Edges e) {
        ChangeSync x = new ChangeSync(2, 16);
        x.tick(0);
        for (int call = 2; call <= 511; call++) {
            x.twice(0);
        }
        e.due("call 512, of twice", x.twice(0), 511);
        ChangeSync y = new ChangeSync(2, 16);
        y.make(1, 13);
        y.tick(0);
        for (int call = 3; call <= 511; call++) {
            y.look(0);
        }
        e.due("call 512, of deliver", y.deliver(0), 1);
    }

    @Says(in = "Terms", value = "`NONE = -1`: There is none.")
    static void noneIsMinusOne(Edges e) {
        e.due("NONE", ChangeSync.NONE, -1);
    }

    // ---- replicas and changes

    @Says(in = "Terms", value = "There are N REPLICAS 0, 1, .., at first UP and without changes.")
    static void replicasAreUpAtFirst(Edges e) {
        for (int n : new int[] {2, 8}) {
            for (int r = 0; r < n; r++) {
                e.due("is UP", new ChangeSync(n, 16).up(r, true), false);
                e.due("make", new ChangeSync(n, 16).make(r, 1), 1);
                e.due("tick", new ChangeSync(n, 16).tick(r), n - 1);
            }
        }
    }

    @Says(in = "Terms", value = "There are N REPLICAS 0, 1, .., at first UP and without changes.")
    static void replicasHaveNoChangesAtFirst(Edges e) {
        for (int n : new int[] {2, 8}) {
            ChangeSync x = new ChangeSync(n, 16);
            for (int r = 0; r < n; r++) {
                e.due("clock", x.clock(r), 0);
                e.due("log", x.log(r, 0), -1);
                e.due("lacks", x.lacks(r), 0);
                e.due("weight", x.weight(r, 1), -1);
            }
        }
    }

    @Says(in = "Terms", value = "has a SEQ (1, 2, .. of this actor)")
    static void theFirstSeqIsOne(Edges e) {
        ChangeSync x = new ChangeSync(2, 16);
        e.due("first SEQ", x.make(1, 1), 1);
        e.due("first change", x.log(1, 0), 1 + 8);
        e.due("second SEQ", x.make(1, 1), 2);
        e.due("second change", x.log(1, 1), 1 + 16);
    }

    @Says(in = "Terms", value = "has a SEQ (1, 2, .. of this actor)")
    static void theSeqDoesNotCountChangesOfOthers(Edges e) {
        ChangeSync x = new ChangeSync(2, 100);
        Scenes.make(x, 0, 5, 5);
        Scenes.fetch(x, 1, 0);
        e.due("first SEQ behind two others", x.make(1, 5), 1);
        e.due("clock", x.clock(1), 0x102);
    }

    @Says(in = "Terms", value = "a LOG, the changes that it has, in the order in which they came to it")
    static void theLogIsInTheOrderOfComing(Edges e) {
        ChangeSync x = new ChangeSync(2, 100);
        x.make(0, 1);
        Scenes.fetch(x, 1, 0);
        x.make(1, 1);
        x.make(0, 1);
        Scenes.fetch(x, 1, 0);
        Scenes.fetch(x, 0, 1);
        e.due("one between two of another", Scenes.log(x, 1), "8 9 16");
        e.due("the other's", Scenes.log(x, 0), "8 16 9");
    }

    @Says(in = "Terms", value = "(it has always the first ones of an actor)")
    static void noChangeComesBeforeAnEarlierOne(Edges e) {
        ChangeSync x = new ChangeSync(2, 16);
        Scenes.make(x, 1, 13, 13, 13);
        x.tick(0);
        x.deliver(0);
        x.twice(2);
        e.due("the third first", x.deliver(2), 0);
        e.due("then the first", x.deliver(0), 1);
        e.due("the third before the second", x.deliver(1), 0);
        e.due("clock", x.clock(0), 0x100);
        e.due("log", Scenes.log(x, 0), "9");
    }

    @Says(in = "Terms", value = "A CLOCK is told as a long, byte a (a 0 the lowest) for actor a.")
    static void theLowestByteIsOfActor0(Edges e) {
        ChangeSync x = Scenes.made60();
        e.due("60 of actor 0", x.clock(0), 60);
        x.tick(0);
        e.due("told", x.told(0), 60);
    }

    @Says(in = "Terms", value = "A CLOCK is told as a long, byte a (a 0 the lowest) for actor a.")
    static void theHighestByteIsOfActor7(Edges e) {
        ChangeSync x = new ChangeSync(8, 16);
        Scenes.make60(x, 7, 1);
        e.due("60 of actor 7", x.clock(7), 60L << 56);
        x.tick(7);
        e.due("told", x.told(6), 60L << 56);
    }

    @Says(in = "Terms", value = "A CLOCK is told as a long, byte a (a 0 the lowest) for actor a.")
    static void theGreatestClockOfAll(Edges e) {
        ChangeSync x = Scenes.all480();
        e.due("60 of each actor", x.clock(0), 0x3C3C3C3C3C3C3C3CL);
        x.tick(0);
        e.due("told", x.told(0), 0x3C3C3C3C3C3C3C3CL);
        e.due("a CLOCK, no PART", x.message(0, 4), -1);
        e.due("nothing that it lacks", x.deliver(0), 0);
    }

    // ---- messages in FLIGHT

    @Says(in = "Terms", value = "MESSAGES are in FLIGHT, at most 120, in the order in which they were sent")
    static void place120IsTheLast(Edges e) {
        ChangeSync x = new ChangeSync(2, 16);
        Scenes.fill(x, 119);
        x.tick(1);
        e.due("the 120th has room", x.look(2), 120);
        e.due("it is there", x.message(119, 1), 1);
        e.due("none is lost", x.look(4), 0);
        x.tick(1);
        e.due("the 121st has none", x.look(2), 120);
        e.due("it is lost", x.look(4), 1);
        e.due("the last is the one before", x.message(119, 0), 119);
    }

    @Says(in = "Terms", value = "MESSAGES are in FLIGHT, at most 120, in the order in which they were sent")
    static void whatIsSentComesLast(Edges e) {
        ChangeSync x = new ChangeSync(3, 16);
        Scenes.make(x, 0, 13, 13);
        x.tick(1);
        x.tick(2);
        e.due("CLOCKS", Scenes.numbers(x), "0 1 2 3");
        x.deliver(0);
        e.due("PARTS behind them", Scenes.numbers(x), "1 2 3 4 5");
        x.twice(1);
        e.due("one once more", Scenes.numbers(x), "1 2 3 4 5 6");
    }

    @Says(in = "Terms", value = "each has a NUMBER, 0, 1, .. in the order of sending")
    static void theFirstNumberIs0(Edges e) {
        ChangeSync x = new ChangeSync(3, 16);
        x.tick(2);
        e.due("first", x.message(0, 0), 0);
        e.due("second", x.message(1, 0), 1);
    }

    @Says(in = "Terms", value = "each has a NUMBER, 0, 1, .. in the order of sending")
    static void noNumberIsUsedAgain(Edges e) {
        ChangeSync x = new ChangeSync(2, 16);
        x.tick(0);
        x.lose(0);
        x.tick(0);
        e.due("after one is lost", x.message(0, 0), 1);
        x.deliver(0);
        x.tick(0);
        e.due("after one is delivered", x.message(0, 0), 2);
        x.up(1, false);
        x.deliver(0);
        x.tick(0);
        e.due("after one is gone", x.message(0, 0), 3);
    }

    @Says(in = "Terms", value = "The BYTES of a CLOCK are 3 + N")
    static void bytesOfAClockOfFewAndOfMany(Edges e) {
        for (int n = 2; n <= 8; n++) {
            ChangeSync x = new ChangeSync(n, 16);
            Scenes.make(x, 0, 400, 400);
            x.tick(0);
            e.due("of " + n + " replicas", x.message(n - 2, 3), 3 + n);
        }
    }

    @Says(in = "Terms", value = "those of a PART 3 and the WEIGHTS of its changes")
    static void bytesOfTheLeastAndTheGreatestPart(Edges e) {
        e.due("weight 1", Scenes.parts(16, 1), "4[9]");
        e.due("weight 400", Scenes.parts(16, 400), "403[9]");
        e.due("2000 bytes", Scenes.parts(2000, 400, 400, 400, 400, 397), "2000[9 17 25 33 41]");
    }

    @Says(in = "Terms", value = "those of a PART 3 and the WEIGHTS of its changes")
    static void bytesOfAPartWithMostChanges(Edges e) {
        ChangeSync x = Scenes.all480();
        x.tick(1);
        e.due("one PART", x.deliver(0), 1);
        e.due("420 changes", x.message(6, 4), 420);
        e.due("their bytes", x.message(6, 3), 3 + 420 * 4);
    }

    @Says(in = "Terms", value = LOST)
    static void aLostMessageHasANumber(Edges e) {
        ChangeSync x = Scenes.full();
        e.due("a CLOCK to each of 7", x.tick(0), 7);
        e.due("7 lost", x.look(4), 7);
        e.due("one sent once more", x.twice(0), 127);
        e.due("8 lost", x.look(4), 8);
        x.lose(0);
        e.due("the next that has room", x.twice(0), 128);
        e.due("its NUMBER", x.message(119, 0), 128);
    }

    @Says(in = "Terms", value = LOST)
    static void aLostPartHasANumber(Edges e) {
        ChangeSync x = Scenes.full();
        e.due("three PARTS", x.deliver(6), 3);
        e.due("two are lost", x.look(4), 2);
        e.due("the first has the NUMBER", x.message(119, 0), 120);
        x.lose(0);
        e.due("the next NUMBER", x.twice(0), 123);
    }

    // ---- what is answered to a CLOCK

    @Says(in = "Terms", value = ANSWERS)
    static void theClocksOwnSeqIsNotLackedAndTheNextIs(Edges e) {
        ChangeSync x = new ChangeSync(2, 100);
        Scenes.make(x, 1, 5, 6);
        Scenes.fetch(x, 0, 1);
        Scenes.make(x, 1, 7, 8);
        x.tick(0);
        e.due("told", x.told(0), 0x200);
        e.due("one PART", x.deliver(0), 1);
        e.due("without SEQ 2, with SEQ 3", Scenes.part(x, 0), "18[25 33]");
    }

    @Says(in = "Terms", value = ANSWERS)
    static void theLastChangeOfSixtyIsLacked(Edges e) {
        ChangeSync x = new ChangeSync(2, 2000);
        for (int seq = 1; seq <= 59; seq++) {
            x.make(1, 1);
        }
        Scenes.fetch(x, 0, 1);
        x.make(1, 9);
        x.tick(0);
        e.due("one PART", x.deliver(0), 1);
        e.due("SEQ 60 alone", Scenes.part(x, 0), "12[481]");
    }

    @Says(in = "Terms", value = ANSWERS)
    static void whatWasToldCountsAndNotTheClockOfNow(Edges e) {
        ChangeSync x = new ChangeSync(2, 100);
        Scenes.make(x, 1, 5, 6);
        x.tick(0);
        x.twice(0);
        x.deliver(0);
        e.due("both come", x.deliver(1), 2);
        e.due("the old CLOCK is answered", x.deliver(0), 1);
        e.due("with both", Scenes.part(x, 0), "14[9 17]");
    }

    @Says(in = "Terms", value = ANSWERS)
    static void changesThatTheSenderMadeItselfAreSentToo(Edges e) {
        ChangeSync x = new ChangeSync(2, 100);
        x.tick(0);
        x.make(0, 5);
        x.tick(1);
        x.deliver(1);
        x.deliver(1);
        e.due("the old CLOCK is answered", x.deliver(0), 1);
        e.due("with its sender's change", Scenes.part(x, 0), "8[8]");
    }

    @Says(in = "Terms", value = ANSWERS)
    static void aHighCountOfOneActorHidesNoOther(Edges e) {
        ChangeSync x = new ChangeSync(3, 100);
        Scenes.make(x, 0, 1, 1, 1);
        x.make(2, 9);
        Scenes.fetch(x, 1, 2);
        x.tick(0);
        e.due("told", x.told(0), 3);
        e.due("one PART", x.deliver(0), 1);
        e.due("the other actor's first", Scenes.part(x, 1), "12[10]");
    }

    @Says(in = "Terms", value = ANSWERS)
    static void changesAreSentInTheOrderOfTheLog(Edges e) {
        ChangeSync x = new ChangeSync(3, 100);
        x.make(2, 1);
        Scenes.fetch(x, 1, 2);
        x.make(1, 1);
        x.make(2, 1);
        Scenes.fetch(x, 1, 2);
        x.tick(0);
        x.deliver(0);
        e.due("not by actor, nor by SEQ", Scenes.part(x, 1), "6[10 9 18]");
    }

    @Says(in = "Terms", value = ANSWERS)
    static void partsAreSentOneBehindTheOther(Edges e) {
        ChangeSync x = new ChangeSync(3, 16);
        Scenes.make(x, 2, 13, 12, 11);
        x.tick(0);
        e.due("three PARTS", x.deliver(1), 3);
        e.due("their NUMBERS", Scenes.numbers(x), "0 2 3 4");
        e.due("first", Scenes.part(x, 1), "16[10]");
        e.due("second", Scenes.part(x, 2), "15[18]");
        e.due("third", Scenes.part(x, 3), "14[26]");
    }

    @Says(in = "Terms", value = "When a CLOCK is DELIVERED the receiver ANSWERS the sender")
    static void theAnswerGoesFromReceiverToSender(Edges e) {
        ChangeSync x = new ChangeSync(8, 16);
        x.make(0, 1);
        x.tick(7);
        x.deliver(0);
        e.due("sender", x.message(6, 1), 0);
        e.due("receiver", x.message(6, 2), 7);
    }

    @Says(in = "Terms", value = TAKES_NEXT)
    static void aPartThatIsJustFull(Edges e) {
        e.due("16 of 16", Scenes.parts(16, 6, 7), "16[9 17]");
        e.due("2000 of 2000", Scenes.parts(2000, 400, 400, 400, 400, 397), "2000[9 17 25 33 41]");
    }

    @Says(in = "Terms", value = TAKES_NEXT)
    static void aPartThatWouldBeOneByteAbove(Edges e) {
        e.due("17 of 16", Scenes.parts(16, 6, 8), "9[9] 11[17]");
        e.due("2001 of 2000", Scenes.parts(2000, 400, 400, 400, 400, 398), "1603[9 17 25 33] 401[41]");
    }

    @Says(in = "Terms", value = TAKES_NEXT)
    static void aPartThatIsJustFullTakesNoMore(Edges e) {
        e.due("the least change behind it", Scenes.parts(16, 13, 1), "16[9] 4[17]");
    }

    @Says(in = "Terms", value = TAKES_NEXT)
    static void eachPartIsFilledFromNothing(Edges e) {
        e.due("full ones", Scenes.parts(16, 6, 7, 6, 7, 6, 7), "16[9 17] 16[25 33] 16[41 49]");
    }

    @Says(in = "Terms", value = TAKES_NEXT)
    static void aSmallChangeDoesNotGoAheadOfALargeOne(Edges e) {
        e.due("the third would have had room", Scenes.parts(16, 10, 10, 1), "13[9] 14[17 25]");
    }

    @Says(in = "Terms", value = TAKES_FIRST)
    static void aFirstChangeAboveM(Edges e) {
        e.due("one byte above", Scenes.parts(16, 14), "17[9]");
        e.due("far above", Scenes.parts(16, 400), "403[9]");
        e.due("the heaviest, one byte above", Scenes.parts(402, 400), "403[9]");
        e.due("the heaviest, just M", Scenes.parts(403, 400), "403[9]");
    }

    @Says(in = "Terms", value = TAKES_FIRST)
    static void aFirstChangeAboveMStaysAlone(Edges e) {
        e.due("the least change behind it", Scenes.parts(16, 14, 1), "17[9] 4[17]");
    }

    @Says(in = "Terms", value = TAKES_FIRST)
    static void aFirstChangeAboveMInALaterPart(Edges e) {
        e.due("between small ones", Scenes.parts(16, 5, 400, 5, 5), "8[9] 403[17] 13[25 33]");
        e.due("only such ones", Scenes.parts(16, 14, 15, 16), "17[9] 18[17] 19[25]");
    }

    @Says(in = "Terms", value = NO_PART)
    static void anEmptyLogIsNoAnswer(Edges e) {
        ChangeSync x = new ChangeSync(2, 16);
        x.tick(0);
        e.due("no PART", x.deliver(0), 0);
        e.due("sent", x.look(3), 1);
        e.due("in FLIGHT", x.look(2), 0);
    }

    @Says(in = "Terms", value = NO_PART)
    static void aClockThatLacksNothing(Edges e) {
        ChangeSync x = new ChangeSync(2, 16);
        Scenes.make(x, 1, 13, 13);
        Scenes.fetch(x, 0, 1);
        x.tick(0);
        int sent = x.look(3);
        e.due("no PART", x.deliver(0), 0);
        e.due("sent", x.look(3), sent);
        e.due("in FLIGHT", x.look(2), 0);
    }

    @Says(in = "Terms", value = NO_PART)
    static void aClockThatTellsMoreThanTheReceiverHas(Edges e) {
        ChangeSync x = new ChangeSync(2, 16);
        x.make(0, 1);
        Scenes.fetch(x, 1, 0);
        x.make(0, 1);
        x.tick(0);
        int sent = x.look(3);
        e.due("no PART", x.deliver(0), 0);
        e.due("sent", x.look(3), sent);
        e.due("in FLIGHT", x.look(2), 0);
    }

    // ---- what a PART brings

    @Says(in = "Terms", value = COMES)
    static void theFirstAndTheSixtiethCome(Edges e) {
        ChangeSync x = new ChangeSync(2, 2000);
        x.make(1, 1);
        Scenes.fetch(x, 0, 1);
        e.due("the first", x.clock(0), 0x100);
        for (int seq = 2; seq <= 60; seq++) {
            x.make(1, 1);
        }
        x.tick(0);
        x.deliver(0);
        e.due("59 come", x.deliver(0), 59);
        e.due("the sixtieth", x.log(0, 59), 1 + 8 * 60);
        e.due("clock", x.clock(0), 60 << 8);
    }

    @Says(in = "Terms", value = "the receiver takes its changes in their order")
    static void eachChangeMakesRoomForTheNext(Edges e) {
        ChangeSync x = new ChangeSync(2, 100);
        Scenes.make(x, 1, 1, 1, 1);
        x.tick(0);
        x.deliver(0);
        e.due("all three of one PART", x.deliver(0), 3);
        e.due("log", Scenes.log(x, 0), "9 17 25");
    }

    @Says(in = "Terms", value = PASSED)
    static void aChangeThatIsThereAlready(Edges e) {
        ChangeSync x = new ChangeSync(2, 16);
        x.make(1, 1);
        x.tick(0);
        x.deliver(0);
        x.twice(0);
        x.deliver(0);
        e.due("none comes", x.deliver(0), 0);
        e.due("passed over", x.look(6), 1);
        e.due("log", Scenes.log(x, 0), "9");
        e.due("clock", x.clock(0), 0x100);
    }

    @Says(in = "Terms", value = PASSED)
    static void aChangeThatIsOneTooEarly(Edges e) {
        ChangeSync x = new ChangeSync(2, 16);
        Scenes.make(x, 1, 13, 13);
        x.tick(0);
        x.deliver(0);
        e.due("none comes", x.deliver(1), 0);
        e.due("passed over", x.look(6), 1);
        e.due("log", Scenes.log(x, 0), "");
        e.due("clock", x.clock(0), 0);
        e.due("it does not come later by itself", x.deliver(0), 1);
        e.due("log", Scenes.log(x, 0), "9");
    }

    @Says(in = "Terms", value = PASSED)
    static void changesThereAlreadyBeforeOneThatComes(Edges e) {
        ChangeSync x = new ChangeSync(2, 100);
        x.make(1, 5);
        x.tick(0);
        x.tick(0);
        x.deliver(0);
        x.deliver(1);
        x.make(1, 5);
        x.deliver(0);
        e.due("the PART", Scenes.part(x, 0), "13[9 17]");
        e.due("one comes", x.deliver(0), 1);
        e.due("one is passed over", x.look(6), 1);
        e.due("log", Scenes.log(x, 0), "9 17");
    }

    @Says(in = "Terms", value = PASSED)
    static void aChangeTooEarlyBeforeOneThatComes(Edges e) {
        ChangeSync x = new ChangeSync(3, 16);
        Scenes.make(x, 0, 13, 5);
        x.make(1, 5);
        Scenes.fetch(x, 0, 1);
        x.tick(2);
        x.deliver(0);
        e.due("the PART", Scenes.part(x, 2), "13[16 9]");
        e.due("one comes", x.deliver(2), 1);
        e.due("one is passed over", x.look(6), 1);
        e.due("log", Scenes.log(x, 2), "9");
    }

    // ---- a replica that is DOWN

    @Says(in = "Terms", value = DOES_NOTHING)
    static void oneDownDoesNotAnswer(Edges e) {
        ChangeSync x = new ChangeSync(2, 16);
        x.make(1, 5);
        x.tick(0);
        x.up(1, false);
        e.due("no PART", x.deliver(0), 0);
        e.due("sent", x.look(3), 1);
        e.due("in FLIGHT", x.look(2), 0);
    }

    @Says(in = "Terms", value = DOES_NOTHING)
    static void oneDownTakesNoChanges(Edges e) {
        ChangeSync x = new ChangeSync(2, 16);
        x.make(1, 5);
        x.tick(0);
        x.deliver(0);
        x.up(0, false);
        e.due("none comes", x.deliver(0), 0);
        e.due("clock", x.clock(0), 0);
        e.due("log", Scenes.log(x, 0), "");
        e.due("passed over", x.look(6), 0);
    }

    @Says(in = "Terms", value = DOES_NOTHING)
    static void oneDownNeitherMakesNorTicks(Edges e) {
        e.refused("make", Scenes::busy, Edges.BAD_STATE, x -> x.make(1, 5));
        e.refused("tick", Scenes::busy, Edges.BAD_STATE, x -> x.tick(1));
    }

    @Says(in = "Terms", value = IS_GONE)
    static void whatIsGoneDoesNotComeBack(Edges e) {
        ChangeSync x = new ChangeSync(2, 16);
        x.make(1, 5);
        x.tick(0);
        x.deliver(0);
        x.up(0, false);
        x.deliver(0);
        e.due("gone", x.look(5), 1);
        e.due("not lost", x.look(4), 0);
        x.up(0, true);
        e.due("in FLIGHT", x.look(2), 0);
        e.due("clock", x.clock(0), 0);
        e.due("lacks", x.lacks(0), 1);
    }

    // ---- refusals

    @Says(in = "Terms", value = REFUSED)
    static void nothingIsChangedByWhatThrows(Edges e) {
        e.refused("make, no replica", Scenes::busy, Edges.NO_SUCH, x -> x.make(3, 5));
        e.refused("make, no weight", Scenes::busy, Edges.BAD_ARGUMENT, x -> x.make(0, 401));
        e.refused("make, DOWN", Scenes::busy, Edges.BAD_STATE, x -> x.make(1, 5));
        e.refused("make, 60 made", Scenes::made60, Edges.BAD_STATE, x -> x.make(0, 5));
        e.refused("tick, no replica", Scenes::busy, Edges.NO_SUCH, x -> x.tick(3));
        e.refused("tick, DOWN", Scenes::busy, Edges.BAD_STATE, x -> x.tick(1));
        e.refused("deliver", Scenes::busy, Edges.NO_SUCH, x -> x.deliver(2));
        e.refused("twice", Scenes::busy, Edges.NO_SUCH, x -> x.twice(2));
        e.refused("message, no message", Scenes::busy, Edges.NO_SUCH, x -> x.message(2, 0));
        e.refused("message, no w", Scenes::busy, Edges.NO_SUCH, x -> x.message(0, 5));
        e.refused("clock", Scenes::busy, Edges.NO_SUCH, x -> x.clock(3));
        e.refused("lacks", Scenes::busy, Edges.NO_SUCH, x -> x.lacks(3));
    }

    @Says(in = "Terms", value = REFUSED)
    static void nothingIsChangedByWhatAnswersFalse(Edges e) {
        e.saysFalse("lose", Scenes::busy, x -> Edges.number(x.lose(2)));
        e.saysFalse("up, no replica", Scenes::busy, x -> Edges.number(x.up(3, false)));
        e.saysFalse("up of one UP", Scenes::busy, x -> Edges.number(x.up(0, true)));
        e.saysFalse("down of one DOWN", Scenes::busy, x -> Edges.number(x.up(1, false)));
    }

    @Says(in = "Terms", value = REFUSED)
    static void nothingIsChangedByRefusalsWith120InFlight(Edges e) {
        e.refused("deliver", Scenes::full, Edges.NO_SUCH, x -> x.deliver(120));
        e.refused("twice", Scenes::full, Edges.NO_SUCH, x -> x.twice(120));
        e.refused("tick", Scenes::full, Edges.NO_SUCH, x -> x.tick(8));
        e.saysFalse("lose", Scenes::full, x -> Edges.number(x.lose(120)));
    }

    @Says(in = "Terms", value = FIRST_LISTED)
    static void noReplicaGoesBeforeNoWeight(Edges e) {
        e.refused("make(3, 0)", Scenes::busy, Edges.NO_SUCH, x -> x.make(3, 0));
        e.refused("make(-1, 401)", Scenes::busy, Edges.NO_SUCH, x -> x.make(-1, 401));
    }

    @Says(in = "Terms", value = FIRST_LISTED)
    static void noWeightGoesBeforeDown(Edges e) {
        e.refused("make(1, 0), 1 is DOWN", Scenes::busy, Edges.BAD_ARGUMENT, x -> x.make(1, 0));
        e.refused("make(1, 401), 1 is DOWN", Scenes::busy, Edges.BAD_ARGUMENT, x -> x.make(1, 401));
    }

    @Says(in = "Terms", value = FIRST_LISTED)
    static void noWeightGoesBeforeSixtyMade(Edges e) {
        e.refused("make(0, 0), 60 made", Scenes::made60, Edges.BAD_ARGUMENT, x -> x.make(0, 0));
        e.refused("make(0, 401), 60 made", Scenes::made60, Edges.BAD_ARGUMENT, x -> x.make(0, 401));
    }
}
