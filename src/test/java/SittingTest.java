import java.util.NoSuchElementException;

/** Promises 31 to 36: sitting, minutes more, and the figures of the whole school. */
public final class SittingTest {
    private SittingTest() { }

    public static void main(String[] args) throws IllegalAccessException {
        Suite.run(SittingTest.class);
    }

    // Promise 31: sit

    @Says(promise = 31, text = "Lets a slot be sat.")
    static void sitLeavesOtherSlotsAsTheyAre() {
        Classfederation x = Made.lively();
        x.sit(0);
        Due.isSo("who has a seat at slot 0 sat", x.hasSat(0, 0, false));
        Due.isNot("who has one at slot 1 did not", x.hasSat(1, 1, false));
        Due.is("slot 1 is open", x.giveUp(1, 1), -1);
    }

    @Says(promise = 31, text = "`slot`: the slot")
    static void sitTheFirstAndTheLastSlot() {
        Classfederation x = Made.full();
        x.bid(9, 0, 10);
        x.bid(9, 5, 10);
        x.settle();
        Due.is("slot 5", x.sit(5), 1);
        Due.is("slot 0", x.sit(0), 1);
        Due.isSo("exam 0", x.hasSat(9, 0, false));
        Due.isSo("exam 5", x.hasSat(9, 5, false));
    }

    @Says(promise = 31, text = "Returns how many sat.")
    static void sitWithNobodyOneAndAsManyAsThereMayBe() {
        Due.is("nothing there", new Classfederation().sit(0), 0);
        Due.is("nobody has a seat", Made.full().sit(0), 0);
        Due.is("one", Made.lively().sit(0), 1);
        Due.is("ten, in two rooms", tenWhoSit().sit(5), 10);
    }

    @Says(promise = 31, text = "Returns how many sat.")
    static void sitDoesNotCountWhoIsKeptOut() {
        Classfederation x = tenWhoSit();
        x.write(2, 0, 0, 'r', 0);
        x.write(2, 9, 1, 'r', 0);
        Due.is("sit", x.sit(5), 8);
    }

    @Says(promise = 31, text = "A slot is sat once")
    static void eachSlotIsSatOnce() {
        Classfederation x = new Classfederation();
        for (int i = 0; i < 6; i++) {
            int slot = i;
            Due.is("sit", x.sit(slot), 0);
            Due.raises("sit again", UnsupportedOperationException.class, () -> x.sit(slot));
        }
    }

    @Says(promise = 31, text = "by rising offers at it, then by rising pupils, each who has a seat sits, and keeps it, if the pupil may sit by then")
    static void whoSitsKeepsTheSeatAndWhatWasPaid() {
        Classfederation x = tenWhoSit();
        x.sit(5);
        Due.same("holders of offer 0", Made.holders(x, 0), "0:10 1:10 2:10 3:10 4:10");
        Due.same("holders of offer 1", Made.holders(x, 1), "5:10 6:10 7:10 8:10 9:10");
        Due.is("points", x.points(9), 90);
        Due.is("refunds", x.refunds(), 0);
    }

    @Says(promise = 31, text = "by rising offers at it, then by rising pupils, each who has a seat sits, and keeps it, if the pupil may sit by then")
    static void markKeepsNobodyOut() {
        Classfederation x = Made.lively();
        Made.everywhere(x, 0, 0, 'm', 90);
        Due.is("with a mark of a first", x.sit(0), 1);
        Classfederation y = withAResit();
        Made.everywhere(y, 0, 0, 'm', 50);
        Due.is("with a resit that is open no more", y.sit(1), 1);
    }

    @Says(promise = 31, text = "No pupil sits where two stores disagree on the right to sit.")
    static void whereJustOneStoreDisagreesThePupilIsKeptOut() {
        for (int store = 0; store < 3; store++) {
            Classfederation x = Made.lively();
            x.write(store, 0, 0, 'r', 0);
            Due.is("store " + store + " disagrees", x.sit(0), 0);
            Due.isNot("hasSat", x.hasSat(0, 0, false));
        }
    }

    @Says(promise = 31, text = "otherwise the pupil is kept out, loses the seat, and gets back what was paid.")
    static void whoIsKeptOutLosesTheSeatAndGetsAllBack() {
        Classfederation x = Made.lively();
        Made.everywhere(x, 0, 0, 'r', 0);
        Due.is("sit", x.sit(0), 0);
        Due.raises("seat", NoSuchElementException.class, () -> x.seat(0, 0, false));
        Due.is("holders", x.holders(0), 0);
        Due.is("points", x.points(0), 100);
        Due.is("refunds", x.refunds(), 15);
        Due.isSo("isTrue", x.isTrue());
    }

    @Says(promise = 31, text = "otherwise the pupil is kept out, loses the seat, and gets back what was paid.")
    static void whoIsKeptOutGetsBackWhatAMoveLeftPaid() {
        Classfederation x = Made.lively();
        x.move(0, 4);
        x.write(0, 0, 0, 'r', 0);
        x.sit(4);
        Due.is("7 by the move, then 8", x.refunds(), 15);
        Due.is("points", x.points(0), 100);
    }

    @Says(promise = 31, text = "otherwise the pupil is kept out, loses the seat, and gets back what was paid.")
    static void whoIsKeptOutCanHaveAnotherSeat() {
        Classfederation x = Made.lively();
        Made.everywhere(x, 0, 0, 'r', 0);
        x.sit(0);
        Made.everywhere(x, 0, 0, 'r', 1);
        x.bid(0, 4, 50);
        Due.is("settle", x.settle(), 2);
        Due.is("seat", x.seat(0, 0, false), 4);
    }

    @Says(promise = 31, text = "Nobody moves up by that.")
    static void nobodyMovesUpWhereOneIsKeptOut() {
        Classfederation x = Made.lively();
        Made.everywhere(x, 0, 0, 'r', 0);
        Due.is("sit", x.sit(0), 0);
        Due.same("holders", Made.holders(x, 0), "");
        Due.same("waiters", Made.waiters(x, 0), "1");
        Due.is("points of who waits", x.points(1), 79);
    }

    @Says(promise = 31, text = "Offers at a slot that was sat are closed: no bids, no giving up, no moves, from or to it, nobody moves up there")
    static void closedOffersTakeNoBidsSeatsOrMoves() {
        Class<UnsupportedOperationException> due = UnsupportedOperationException.class;
        Due.refuses("no bids", SittingTest::livelyWithSlot0Sat, due, x -> x.bid(2, 0, 1));
        Due.refuses("no giving up", SittingTest::livelyWithSlot0Sat, due, x -> x.giveUp(0, 0));
        Due.refuses("no moves from it", SittingTest::livelyWithSlot0Sat, due, x -> x.move(0, 4));
        Due.refuses("no moves to it", SittingTest::livelyWithSlot0Sat, due, x -> x.move(1, 0));
        Due.refuses("no offers at it", SittingTest::livelyWithSlot0Sat, due, x -> x.offer(0, 0, 1, false));
    }

    @Says(promise = 31, text = "bids told ahead are gone as the round is settled.")
    static void bidsToldAheadAreGoneAsTheRoundIsSettled() {
        Classfederation x = Made.lively();
        x.sit(3);
        Due.is("they are told until then", x.bids(), 4);
        Due.is("the one for offer 1 alone has a seat", x.settle(), 1);
        Due.is("holders", x.holders(4), 0);
        Due.is("waiting", x.waiting(4), 0);
        Due.is("bids", x.bids(), 0);
        Due.is("nothing was paid", x.points(2), 70);
    }

    @Says(promise = 31, text = "Throws `IllegalArgumentException` if it is out of range")
    static void sitASlotJustOutside() {
        Due.refusesEach("slot", Made::lively, IllegalArgumentException.class, Due.outside(0, 5), (x, slot) -> x.sit(slot));
    }

    @Says(promise = 31, text = "Throws `UnsupportedOperationException` if it was sat")
    static void sitASlotThatWasSat() {
        Due.refuses("slot 5", Made::lively, UnsupportedOperationException.class, x -> x.sit(5));
        Due.refuses("slot 0, whose right is gone since", () -> {
            Classfederation y = livelyWithSlot0Sat();
            y.write(0, 0, 0, 'r', 0);
            return y;
        }, UnsupportedOperationException.class, x -> x.sit(0));
    }

    // Promise 32: hasSat

    @Says(promise = 32, text = "Returns whether a pupil has sat an exam.")
    static void hasSatFromThenOn() {
        Classfederation x = Made.lively();
        Due.isNot("with a seat", x.hasSat(0, 0, false));
        x.sit(0);
        Due.isSo("sat", x.hasSat(0, 0, false));
        Made.everywhere(x, 0, 0, 'r', 0);
        Due.isSo("whatever is written then", x.hasSat(0, 0, false));
    }

    @Says(promise = 32, text = "Returns whether a pupil has sat an exam.")
    static void hasNotSatWithoutASeatThere() {
        Classfederation x = livelyWithSlot0Sat();
        Due.isNot("who waits for it", x.hasSat(1, 0, false));
        Due.isNot("another exam", x.hasSat(0, 1, false));
        Made.everywhere(x, 1, 1, 'r', 0);
        x.sit(1);
        Due.isNot("who was kept out", x.hasSat(1, 1, false));
    }

    @Says(promise = 32, text = "`isResit`: whether a resit is meant")
    static void hasSatAFirstAndAResitApart() {
        Classfederation x = withAResit();
        x.sit(1);
        Due.isSo("the resit", x.hasSat(0, 0, true));
        Due.isNot("the first not yet", x.hasSat(0, 0, false));
        x.sit(0);
        Due.isSo("the first", x.hasSat(0, 0, false));
        Due.isSo("the resit still", x.hasSat(0, 0, true));
        Due.isNot("the resit of who sat the first", livelyWithSlot0Sat().hasSat(0, 0, true));
    }

    @Says(promise = 32, text = "Returns whether it is so.")
    static void hasSatOfTheFirstAndTheLastPupilAndExam() {
        Classfederation x = Made.full();
        x.bid(0, 0, 10);
        x.bid(9, 11, 10);
        x.settle();
        x.sit(0);
        x.sit(5);
        for (int pupil = 0; pupil < 10; pupil++) {
            for (int exam = 0; exam < 6; exam++) {
                boolean due = pupil == 0 && exam == 0 || pupil == 9 && exam == 5;
                Due.is("hasSat", x.hasSat(pupil, exam, false) ? 1 : 0, due ? 1 : 0);
            }
        }
    }

    @Says(promise = 32, text = "Throws `IndexOutOfBoundsException` if there is no such pupil or exam")
    static void hasSatOfNoSuchPupil() {
        Due.knowsNumbers("pupil", Made::pupils, 10, (x, pupil) -> x.hasSat(pupil, 0, false));
    }

    @Says(promise = 32, text = "Throws `IndexOutOfBoundsException` if there is no such pupil or exam")
    static void hasSatOfNoSuchExam() {
        Due.knowsNumbers("exam", Made::exams, 6, (x, exam) -> x.hasSat(0, exam, false));
        Due.knowsNumbers("exam", Made::exams, 6, (x, exam) -> x.hasSat(0, exam, true));
    }

    // Promise 33: more

    @Says(promise = 33, text = "Returns the minutes that a pupil has more at a slot, by their owner, of the exam there.")
    static void moreByTheOwner() {
        Classfederation x = Made.lively();
        for (int store = 0; store < 3; store++) {
            x.write(store, 0, 0, 'x', 10 + store);
        }
        Due.is("by store 2", x.more(0, 0), 12);
        x.sync(2, 1);
        x.write(1, 1, 1, 'x', 15);
        x.setOwner('x', 1);
        x.write(1, 0, 0, 'x', 45);
        Due.is("by its new owner", x.more(0, 0), 45);
    }

    @Says(promise = 33, text = "Returns the minutes that a pupil has more at a slot, by their owner, of the exam there.")
    static void moreOfTheExamThere() {
        Classfederation x = Made.lively();
        x.settle();
        x.write(2, 0, 0, 'x', 20);
        x.write(2, 0, 1, 'x', 30);
        Due.is("exam 0 at slot 0", x.more(0, 0), 20);
        Due.is("exam 1 at slot 1", x.more(0, 1), 30);
        x.move(0, 4);
        Due.is("where it was moved", x.more(0, 4), 20);
        x.sit(4);
        Due.is("where it was sat", x.more(0, 4), 20);
    }

    @Says(promise = 33, text = "`slot`: the slot")
    static void moreAtTheFirstAndTheLastSlot() {
        Classfederation x = Made.full();
        x.bid(9, 0, 10);
        x.bid(9, 5, 10);
        x.settle();
        x.write(2, 9, 0, 'x', 1);
        x.write(2, 9, 5, 'x', 2);
        Due.is("slot 0", x.more(9, 0), 1);
        Due.is("slot 5", x.more(9, 5), 2);
    }

    @Says(promise = 33, text = "Returns the minutes.")
    static void moreNoneAndTheMost() {
        Classfederation x = Made.lively();
        Due.is("none", x.more(0, 0), 0);
        x.write(2, 0, 0, 'x', 60);
        Due.is("the most", x.more(0, 0), 60);
    }

    @Says(promise = 33, text = "Throws `IndexOutOfBoundsException` if there is no such pupil")
    static void moreOfNoSuchPupil() {
        Due.knowsNumbers("pupil", Made::pupils, 10, (x, pupil) -> x.more(pupil, 0));
    }

    @Says(promise = 33, text = "Throws `IllegalArgumentException` if the slot is out of range")
    static void moreAtASlotJustOutside() {
        Due.refusesEach("slot", Made::lively, IllegalArgumentException.class, Due.outside(0, 5),
                (x, slot) -> x.more(0, slot));
    }

    @Says(promise = 33, text = "Throws `NoSuchElementException` if there is no exam")
    static void moreAtASlotWithoutAnExam() {
        Class<NoSuchElementException> due = NoSuchElementException.class;
        Due.refuses("where the pupil waits", Made::lively, due, x -> x.more(1, 0));
        Due.refuses("where others have one", Made::lively, due, x -> x.more(0, 1));
        Due.refuses("where nothing is offered", Made::lively, due, x -> x.more(1, 4));
    }

    @Says(promise = 33, text = Says.FIRST)
    static void moreOfNoSuchPupilComesFirst() {
        Due.refusesEach("no pupil, slot", Made::lively, IndexOutOfBoundsException.class, Due.outside(0, 5),
                (x, slot) -> x.more(3, slot));
        Due.refuses("no pupil, no exam", Made::lively, IndexOutOfBoundsException.class, x -> x.more(-1, 4));
    }

    // Promise 34: takenShare

    @Says(promise = 34, text = "Returns the share of seats of all offers that are taken.")
    static void takenShareOfAllOffers() {
        Classfederation x = Made.lively();
        Due.is("three of seven", x.takenShare(), 3f / 7f);
        x.offer(0, 4, 0, false);
        Due.is("three of eight", x.takenShare(), 0.375);
        x.giveUp(1, 1);
        Due.is("two of eight", x.takenShare(), 0.25);
        x.sit(0);
        Due.is("seats that were sat are taken", x.takenShare(), 0.25);
    }

    @Says(promise = 34, text = "Returns their number divided by that of all, both converted to float.")
    static void takenShareNoneAndAll() {
        Due.is("none", Made.full().takenShare(), 0);
        Classfederation x = Made.schoolWithRights(1, 1, 1);
        x.offer(0, 0, 0, false);
        x.bid(0, 0, 1);
        x.settle();
        Due.is("all", x.takenShare(), 1);
    }

    @Says(promise = 34, text = "Returns their number divided by that of all, both converted to float.")
    static void takenShareIsAFloat() {
        Classfederation x = Made.full();
        for (int taken = 1; taken <= 10; taken++) {
            x.bid(taken - 1, taken <= 6 ? 0 : 6, 1);
            x.settle();
            Due.is("of 72", x.takenShare(), (float) taken / 72f);
        }
    }

    @Says(promise = 34, text = "Throws `ArithmeticException` if there are no offers")
    static void takenShareWithoutOffers() {
        Due.refuses("nothing there", Classfederation::new, ArithmeticException.class, Classfederation::takenShare);
        Due.refuses("rooms alone", () -> Made.offers(0), ArithmeticException.class, Classfederation::takenShare);
        Due.is("one offer", Made.offers(1).takenShare(), 0);
    }

    // Promise 35: meanPoints

    @Says(promise = 35, text = "Returns the mean points that pupils have left.")
    static void meanPointsOfAllPupils() {
        Classfederation x = Made.lively();
        Due.is("85, 79, 70", x.meanPoints(), 78);
        x.pupil();
        Due.is("and 100", x.meanPoints(), 83.5);
        x.giveUp(0, 0);
        Due.is("92, 69, 70, 100", x.meanPoints(), 82.75);
    }

    @Says(promise = 35, text = "Returns the sum divided by their number, both converted to double.")
    static void meanPointsAllAndNone() {
        Due.is("all", Made.full().meanPoints(), 100);
        Classfederation x = Made.pupils(1);
        x.bid(0, 0, 100);
        x.settle();
        Due.is("none", x.meanPoints(), 0);
    }

    @Says(promise = 35, text = "Returns the sum divided by their number, both converted to double.")
    static void meanPointsIsADouble() {
        Classfederation x = Made.pupils(3);
        x.bid(0, 0, 1);
        x.settle();
        Due.is("299 by 3", x.meanPoints(), 299.0 / 3.0);
        Classfederation y = Made.pupils(7);
        y.bid(0, 0, 2);
        y.settle();
        Due.is("698 by 7", y.meanPoints(), 698.0 / 7.0);
    }

    @Says(promise = 35, text = "Throws `ArithmeticException` if there are none")
    static void meanPointsWithoutPupils() {
        Due.refuses("nothing there", Classfederation::new, ArithmeticException.class, Classfederation::meanPoints);
        Due.refuses("an offer alone", () -> Made.pupils(0), ArithmeticException.class, Classfederation::meanPoints);
        Due.is("one pupil", Made.pupils(1).meanPoints(), 100);
    }

    // Promise 36: isTrue. IsTrueTest asks it where it is false, PlainModelTest after each call of long runs.

    @Says(promise = 36, text = "Returns whether all of it holds.")
    static void isTrueWithNothingAndWithAllThereMayBe() {
        Due.isSo("nothing there", new Classfederation().isTrue());
        Due.isSo("full", Made.full().isTrue());
        Due.isSo("in the midst of things", Made.lively().isTrue());
    }

    @Says(promise = 36, text = "that no pupil has two seats at one slot, or of one exam, first and resit apart")
    static void isTrueWithAFirstAndAResit() {
        Classfederation x = withAResit();
        Due.isSo("both seats", x.isTrue());
        x.sit(0);
        x.sit(1);
        Due.isSo("both sat", x.isTrue());
    }

    @Says(promise = 36, text = "that no pupil has two seats at one slot, or of one exam, first and resit apart")
    static void isTrueWithASeatAtEachSlot() {
        for (int exam = 0; exam <= 3; exam += 3) {
            Classfederation x = Made.schoolWithRights(6, 1, 1);
            for (int slot = 0; slot < 6; slot++) {
                x.offer(exam + slot / 2, slot, 0, slot % 2 == 1);
                Made.everywhere(x, 0, exam + slot / 2, 'm', slot % 2 == 1 ? 20 : -1);
                x.bid(0, slot, 1);
                x.settle();
                Due.isSo("isTrue", x.isTrue());
            }
            Due.is("a first and a resit of each of three exams", x.takenShare(), 1);
        }
    }

    @Says(promise = 36, text = "that no offer has more than its seats, or its room another offer at its slot")
    static void isTrueWithEachSeatTakenAndEachRoomTaken() {
        Classfederation x = Made.full();
        for (int pupil = 0; pupil < 10; pupil++) {
            for (int slot = 0; slot < 6; slot++) {
                x.bid(pupil, pupil < 6 ? slot : slot + 6, 16);
            }
        }
        x.settle();
        Due.is("the first room's seats are full", x.holders(0), 6);
        Due.isSo("isTrue", x.isTrue());
    }

    @Says(promise = 36, text = "that points left, and paid, make 100 less what was paid for seats given up and moves, and not brought back")
    static void isTrueAfterAllThatBringsPointsBack() {
        Classfederation x = Made.lively();
        x.move(1, 4);
        Due.isSo("moved", x.isTrue());
        x.giveUp(1, 1);
        Due.isSo("given up after a move", x.isTrue());
        x.giveUp(0, 0);
        Due.isSo("moved up", x.isTrue());
        x.settle();
        x.write(0, 0, 1, 'r', 0);
        x.sit(4);
        Due.isSo("kept out", x.isTrue());
        x.move(0, 1);
        Due.isSo("moved after moving up", x.isTrue());
        x.sit(1);
        Due.isSo("sat", x.isTrue());
    }

    @Says(promise = 36, text = "and that nobody waits who has a seat of it.")
    static void isTrueWhereWhoWaitedHasTheSeat() {
        Classfederation x = Made.lively();
        x.giveUp(0, 0);
        Due.isSo("moved up", x.isTrue());
        Classfederation y = Made.lively();
        y.write(0, 1, 0, 'r', 0);
        y.giveUp(0, 0);
        y.write(0, 1, 0, 'r', 1);
        y.bid(1, 0, 50);
        y.settle();
        Due.same("who waits bids again and has the seat left", Made.holders(y, 0), "1:50");
        Due.same("waiters", Made.waiters(y, 0), "");
        Due.isSo("isTrue", y.isTrue());
    }

    // Schools

    private static Classfederation livelyWithSlot0Sat() {
        Classfederation x = Made.lively();
        x.sit(0);
        return x;
    }

    /** Ten pupils have seats at slot 5, five of each of two offers. */
    private static Classfederation tenWhoSit() {
        Classfederation x = Made.schoolWithRights(2, 10, 6, 6);
        x.offer(0, 5, 0, false);
        x.offer(1, 5, 1, false);
        for (int pupil = 0; pupil < 10; pupil++) {
            x.bid(pupil, pupil / 5, 10);
        }
        x.settle();
        return x;
    }

    /** Pupil 0 has a seat of the first of exam 0, at slot 0, and, with a mark of 20 by now, of its resit, at slot 1. */
    private static Classfederation withAResit() {
        Classfederation x = Made.exams(1);
        x.bid(0, 0, 10);
        x.settle();
        Made.everywhere(x, 0, 0, 'm', 20);
        x.bid(0, 1, 10);
        x.settle();
        return x;
    }
}
