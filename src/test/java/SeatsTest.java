import java.util.NoSuchElementException;

/** Promises 12 to 20 and 22: seats, those who wait, giving up, moves and what comes back. */
public final class SeatsTest {
    private SeatsTest() { }

    public static void main(String[] args) throws IllegalAccessException {
        Suite.run(SeatsTest.class);
    }

    // Promise 12: seat

    @Says(promise = 12, text = "Returns the offer of which a pupil has a seat for an exam.")
    static void seatOfEachExam() {
        Classfederation x = Made.lively();
        Due.is("seat of exam 0", x.seat(0, 0, false), 0);
        Due.is("seat of exam 1", x.seat(1, 1, false), 1);
        Due.is("one that was sat", x.seat(2, 1, false), 3);
        x.move(0, 4);
        Due.is("one that was moved", x.seat(0, 0, false), 0);
    }

    @Says(promise = 12, text = "Returns the offer.")
    static void seatOfTheFirstAndTheLastOffer() {
        Classfederation x = Made.full();
        x.bid(9, 0, 10);
        x.bid(9, 11, 10);
        x.settle();
        Due.is("the first", x.seat(9, 0, false), 0);
        Due.is("the last", x.seat(9, 5, false), 11);
    }

    @Says(promise = 12, text = "`isResit`: whether a resit is meant")
    static void seatOfAFirstIsNoneOfAResit() {
        Due.refuses("the resit", Made::lively, NoSuchElementException.class, x -> x.seat(0, 0, true));
        Due.refuses("the first", SeatsTest::withAResitAlone, NoSuchElementException.class, x -> x.seat(0, 0, false));
        Due.is("the resit", withAResitAlone().seat(0, 0, true), 1);
    }

    @Says(promise = 12, text = "Throws `IndexOutOfBoundsException` if there is no such pupil or exam")
    static void seatOfNoSuchPupil() {
        Due.knowsNumbers("pupil", Made::pupils, 10, (x, pupil) -> x.seat(pupil, 0, false));
    }

    @Says(promise = 12, text = "Throws `IndexOutOfBoundsException` if there is no such pupil or exam")
    static void seatOfNoSuchExam() {
        Due.knowsNumbers("exam", Made::exams, 6, (x, exam) -> x.seat(0, exam, false));
        Due.knowsNumbers("exam", Made::exams, 6, (x, exam) -> x.seat(0, exam, true));
    }

    @Says(promise = 12, text = "Throws `NoSuchElementException` if there is none")
    static void seatWhereThereIsNone() {
        Class<NoSuchElementException> due = NoSuchElementException.class;
        Due.refuses("of another exam", Made::lively, due, x -> x.seat(0, 1, false));
        Due.refuses("who waits", Made::lively, due, x -> x.seat(1, 0, false));
        Due.refuses("given up", SeatsTest::livelyWithOneGivenUp, due, x -> x.seat(0, 0, false));
        Due.refuses("lost by a move", SeatsTest::livelyWithOneLost, due, x -> x.seat(0, 0, false));
        Due.refuses("kept out", SeatsTest::livelyWithOneKeptOut, due, x -> x.seat(0, 0, false));
    }

    // Promise 13: at

    @Says(promise = 13, text = "Returns the exam that a pupil has at a slot.")
    static void atTheSlotWhereItIsNow() {
        Classfederation x = Made.lively();
        Due.is("at 0", x.at(0, 0), 0);
        Due.is("at 1", x.at(1, 1), 1);
        x.move(1, 4);
        Due.is("at the new slot", x.at(1, 4), 1);
        Due.raises("at the old slot", NoSuchElementException.class, () -> x.at(1, 1));
        Due.is("at one that was sat", x.at(2, 5), 1);
    }

    @Says(promise = 13, text = "`slot`: the slot")
    static void atTheFirstAndTheLastSlot() {
        Classfederation x = Made.full();
        x.bid(9, 5, 10);
        x.bid(9, 0, 10);
        x.settle();
        Due.is("at 0", x.at(9, 0), 0);
        Due.is("at 5", x.at(9, 5), 5);
    }

    @Says(promise = 13, text = "Returns the exam.")
    static void atTheExamOfAFirstOrAResit() {
        Due.is("a resit", withAResitAlone().at(0, 1), 0);
        Due.is("not the number of the offer", Made.lively().at(2, 5), 1);
    }

    @Says(promise = 13, text = "Throws `IndexOutOfBoundsException` if there is no such pupil")
    static void atOfNoSuchPupil() {
        Due.knowsNumbers("pupil", Made::pupils, 10, (x, pupil) -> x.at(pupil, 0));
    }

    @Says(promise = 13, text = "Throws `IllegalArgumentException` if the slot is out of range")
    static void atASlotJustOutside() {
        Due.refusesEach("at", Made::lively, IllegalArgumentException.class, Due.outside(0, 5), (x, slot) -> x.at(0, slot));
    }

    @Says(promise = 13, text = "Throws `NoSuchElementException` if there is none")
    static void atASlotWithoutAnExam() {
        Class<NoSuchElementException> due = NoSuchElementException.class;
        Due.refuses("where the pupil waits", Made::lively, due, x -> x.at(1, 0));
        Due.refuses("where others have one", Made::lively, due, x -> x.at(0, 1));
        Due.refuses("where nothing is offered", Made::lively, due, x -> x.at(0, 4));
        Due.refuses("given up", SeatsTest::livelyWithOneGivenUp, due, x -> x.at(0, 0));
        Due.refuses("kept out", SeatsTest::livelyWithOneKeptOut, due, x -> x.at(0, 0));
    }

    @Says(promise = 13, text = Says.FIRST)
    static void atNoSuchPupilComesFirst() {
        Due.refusesEach("no pupil, slot", Made::lively, IndexOutOfBoundsException.class, Due.outside(0, 5),
                (x, slot) -> x.at(3, slot));
        Due.refuses("no pupil, nothing at the slot", Made::lively, IndexOutOfBoundsException.class, x -> x.at(-1, 4));
    }

    // Promise 14: holders

    @Says(promise = 14, text = "Returns how many have a seat of an offer.")
    static void holdersAreThoseWhoHaveASeat() {
        Classfederation x = Made.lively();
        Due.is("one, one waits", x.holders(0), 1);
        Due.is("one who sat", x.holders(3), 1);
        Due.is("told bids are no seats", x.holders(4), 0);
        x.giveUp(0, 0);
        Due.is("one moved up", x.holders(0), 1);
        x.giveUp(1, 0);
        Due.is("given up", x.holders(0), 0);
    }

    @Says(promise = 14, text = "Returns how many.")
    static void holdersNoneOneAndAsManyAsThereMayBe() {
        Classfederation x = sixSeats(0);
        Due.is("none", x.holders(0), 0);
        Due.is("one", sixSeats(1).holders(0), 1);
        Due.is("six", sixSeats(6).holders(0), 6);
        Due.is("seven bid", sixSeats(7).holders(0), 6);
    }

    @Says(promise = 14, text = "Throws `IndexOutOfBoundsException` if there is no such offer")
    static void holdersOfNoSuchOffer() {
        Due.knowsNumbers("offer", Made::offers, 12, (x, offer) -> x.holders(offer));
    }

    // Promise 15: holder

    @Says(promise = 15, text = "`index`: the index, from 0, by rising pupils")
    static void holderByRisingPupils() {
        Classfederation x = Made.schoolWithRights(1, 10, 6);
        x.offer(0, 0, 0, false);
        int[] order = {9, 3, 7, 0, 5, 4};
        for (int i = 0; i < 6; i++) {
            x.bid(order[i], 0, 10 + i);
        }
        x.settle();
        int[] rising = {0, 3, 4, 5, 7, 9};
        for (int i = 0; i < 6; i++) {
            Due.is("holder " + i, x.holder(0, i), rising[i]);
        }
        x.giveUp(3, 0);
        Due.is("those behind who went come nearer", x.holder(0, 1), 4);
        Due.is("the last", x.holder(0, 4), 9);
    }

    @Says(promise = 15, text = "Returns who has a seat of an offer.")
    static void holderOfEachOffer() {
        Classfederation x = Made.lively();
        Due.is("of offer 0", x.holder(0, 0), 0);
        Due.is("of offer 1", x.holder(1, 0), 1);
        Due.is("of one that was sat", x.holder(3, 0), 2);
    }

    @Says(promise = 15, text = "Returns the pupil.")
    static void holderTheFirstAndTheLastPupil() {
        Classfederation x = Made.full();
        x.bid(0, 0, 10);
        x.bid(9, 0, 10);
        x.settle();
        Due.is("the first", x.holder(0, 0), 0);
        Due.is("the last", x.holder(0, 1), 9);
    }

    @Says(promise = 15, text = "Throws `IndexOutOfBoundsException` if there is no such offer")
    static void holderOfNoSuchOffer() {
        Due.knowsNumbers("offer", Made::offers, 12, (x, offer) -> x.holder(offer, 0));
    }

    @Says(promise = 15, text = "Throws `NoSuchElementException` if there is none")
    static void holderIndexJustOutside() {
        for (int many : new int[] {0, 1, 6}) {
            Due.refusesEach("of " + many + " holder", () -> sixSeats(many), NoSuchElementException.class,
                    Due.outside(0, many - 1), (x, index) -> x.holder(0, index));
            for (int index = 0; index < many; index++) {
                Due.is("holder", sixSeats(many).holder(0, index), index);
            }
        }
        Due.refuses("holder 10, as many as there are pupils", () -> sixSeats(6), NoSuchElementException.class,
                x -> x.holder(0, 10));
    }

    @Says(promise = 15, text = Says.FIRST)
    static void holderOfNoSuchOfferComesFirst() {
        Due.refusesEach("no offer, index", Made::lively, IndexOutOfBoundsException.class, Due.outside(0, 0),
                (x, index) -> x.holder(5, index));
    }

    // Promise 16: paid

    @Says(promise = 16, text = "Returns what a pupil has paid for a seat.")
    static void paidForEachSeat() {
        Classfederation x = Made.lively();
        Due.is("for offer 0", x.paid(0, 0), 15);
        Due.is("for offer 1", x.paid(1, 1), 21);
        Due.is("for one that was sat", x.paid(2, 3), 30);
        x.giveUp(0, 0);
        Due.is("by who moved up", x.paid(1, 0), 10);
    }

    @Says(promise = 16, text = "Returns the points.")
    static void paidTheLeastAndTheMost() {
        Classfederation x = Made.schoolWithRights(1, 2, 2);
        x.offer(0, 0, 0, false);
        x.bid(0, 0, 1);
        x.bid(1, 0, 100);
        x.settle();
        Due.is("the least", x.paid(0, 0), 1);
        Due.is("the most", x.paid(1, 0), 100);
    }

    @Says(promise = 16, text = "Throws `IndexOutOfBoundsException` if there is no such pupil or offer")
    static void paidByNoSuchPupil() {
        Due.knowsNumbers("pupil", Made::pupils, 10, (x, pupil) -> x.paid(pupil, 0));
    }

    @Says(promise = 16, text = "Throws `IndexOutOfBoundsException` if there is no such pupil or offer")
    static void paidForNoSuchOffer() {
        Due.knowsNumbers("offer", Made::offers, 12, (x, offer) -> x.paid(0, offer));
    }

    @Says(promise = 16, text = "Throws `NoSuchElementException` if the pupil has none")
    static void paidWithoutASeat() {
        Class<NoSuchElementException> due = NoSuchElementException.class;
        Due.refuses("who waits", Made::lively, due, x -> x.paid(1, 0));
        Due.refuses("another's seat", Made::lively, due, x -> x.paid(0, 1));
        Due.refuses("given up", SeatsTest::livelyWithOneGivenUp, due, x -> x.paid(0, 0));
        Due.refuses("lost by a move", SeatsTest::livelyWithOneLost, due, x -> x.paid(0, 0));
        Due.refuses("kept out", SeatsTest::livelyWithOneKeptOut, due, x -> x.paid(0, 0));
    }

    // Promise 17: waiting

    @Says(promise = 17, text = "Returns how many wait for an offer.")
    static void waitingAreThoseWhoWait() {
        Classfederation x = Made.lively();
        Due.is("one behind the holder", x.waiting(0), 1);
        Due.is("told bids do not wait", x.waiting(4), 0);
        x.settle();
        Due.is("one moved on to offer 4, another came", x.waiting(0), 1);
        x.sit(0);
        Due.is("where it is closed", x.waiting(0), 1);
    }

    @Says(promise = 17, text = "Returns how many.")
    static void waitingNoneOneAndAsManyAsThereMayBe() {
        Due.is("none", oneSeat(1).waiting(0), 0);
        Due.is("one", oneSeat(2).waiting(0), 1);
        Due.is("nine", oneSeat(10).waiting(0), 9);
    }

    @Says(promise = 17, text = "Throws `IndexOutOfBoundsException` if there is no such offer")
    static void waitingForNoSuchOffer() {
        Due.knowsNumbers("offer", Made::offers, 12, (x, offer) -> x.waiting(offer));
    }

    // Promise 18: waiter

    @Says(promise = 18, text = "`index`: the index, from 0, as they wait")
    static void waiterAsTheyWait() {
        Classfederation x = oneSeat(10);
        for (int i = 0; i < 9; i++) {
            Due.is("waiter " + i, x.waiter(0, i), 8 - i);
        }
        Due.is("who moves up", x.giveUp(9, 0), 8);
        Due.is("those behind come nearer", x.waiter(0, 0), 7);
        Due.is("the last", x.waiter(0, 7), 0);
    }

    @Says(promise = 18, text = "Returns who waits for an offer.")
    static void waiterOfEachOffer() {
        Classfederation x = Made.lively();
        Due.is("of offer 0", x.waiter(0, 0), 1);
        x.settle();
        Due.is("of offer 4", x.waiter(4, 0), 2);
        Due.is("of offer 0", x.waiter(0, 0), 2);
    }

    @Says(promise = 18, text = "Returns the pupil.")
    static void waiterTheFirstAndTheLastPupil() {
        Due.is("the last", oneSeatFor(0, 9).waiter(0, 0), 9);
        Due.is("the first", oneSeatFor(9, 0).waiter(0, 0), 0);
    }

    @Says(promise = 18, text = "Throws `IndexOutOfBoundsException` if there is no such offer")
    static void waiterOfNoSuchOffer() {
        Due.knowsNumbers("offer", Made::offers, 12, (x, offer) -> x.waiter(offer, 0));
    }

    @Says(promise = 18, text = "Throws `NoSuchElementException` if there is none")
    static void waiterIndexJustOutside() {
        for (int many : new int[] {0, 1, 9}) {
            Due.refusesEach("of " + many + " waiter", () -> oneSeat(many + 1), NoSuchElementException.class,
                    Due.outside(0, many - 1), (x, index) -> x.waiter(0, index));
            for (int index = 0; index < many; index++) {
                Due.is("waiter", oneSeat(many + 1).waiter(0, index), many - 1 - index);
            }
        }
        Due.refuses("waiter 10, as many as there are pupils", () -> oneSeat(10), NoSuchElementException.class,
                x -> x.waiter(0, 10));
    }

    @Says(promise = 18, text = Says.FIRST)
    static void waiterOfNoSuchOfferComesFirst() {
        Due.refusesEach("no offer, index", Made::lively, IndexOutOfBoundsException.class, Due.outside(0, 0),
                (x, index) -> x.waiter(5, index));
    }

    // Promise 19: giveUp

    @Says(promise = 19, text = "Gives a seat up.")
    static void giveUpTakesJustThisSeat() {
        Classfederation x = sixSeats(3);
        x.giveUp(1, 0);
        Due.same("the others keep theirs", Made.holders(x, 0), "0:10 2:12");
        Due.is("and their points", x.points(2), 88);
        x.bid(1, 0, 7);
        Due.is("who gave it up can have it again", x.settle(), 1);
    }

    @Says(promise = 19, text = "Returns who moves up, -1 for nobody.")
    static void giveUpWhereNobodyWaits() {
        Classfederation x = oneSeat(1);
        Due.is("giveUp", x.giveUp(0, 0), -1);
        Due.is("holders", x.holders(0), 0);
    }

    @Says(promise = 19, text = "Returns who moves up, -1 for nobody.")
    static void giveUpWherePupil0OrPupil9MovesUp() {
        Due.is("pupil 0", oneSeatFor(9, 0).giveUp(9, 0), 0);
        Due.is("pupil 9", oneSeatFor(0, 9).giveUp(0, 0), 9);
    }

    @Says(promise = 19, text = "Returns who moves up, -1 for nobody.")
    static void giveUpWhereNobodyWhoWaitsCould() {
        Classfederation x = oneSeat(3);
        Made.everywhere(x, 0, 0, 'r', 0);
        Made.everywhere(x, 1, 0, 'r', 0);
        Due.is("giveUp", x.giveUp(2, 0), -1);
        Due.is("holders", x.holders(0), 0);
        Due.same("they wait on", Made.waiters(x, 0), "1 0");
    }

    @Says(promise = 19, text = "goes to the first who waits for the offer")
    static void theFirstWhoWaitsMovesUp() {
        Classfederation x = oneSeat(4);
        Due.is("who moves up", x.giveUp(3, 0), 2);
        Due.same("the others wait on", Made.waiters(x, 0), "1 0");
        Due.is("who moves up", x.giveUp(2, 0), 1);
        Due.is("who moves up", x.giveUp(1, 0), 0);
        Due.is("nobody is left", x.giveUp(0, 0), -1);
    }

    @Says(promise = 19, text = "goes to the first who waits for the offer")
    static void oneSeatGivenUpMovesOneUp() {
        Classfederation x = Made.schoolWithRights(1, 4, 2);
        x.offer(0, 0, 0, false);
        for (int pupil = 0; pupil < 4; pupil++) {
            x.bid(pupil, 0, 10);
        }
        x.settle();
        x.write(0, 2, 0, 'r', 0);
        x.write(0, 3, 0, 'r', 0);
        Due.is("nobody could have it", x.giveUp(0, 0), -1);
        x.write(0, 2, 0, 'r', 1);
        x.write(0, 3, 0, 'r', 1);
        Due.is("nobody moves up by a right", x.holders(0), 1);
        Due.is("the first", x.giveUp(1, 0), 2);
        Due.is("but not a second one", x.holders(0), 1);
        x.bid(0, 0, 1);
        Due.is("a bid has the seat that is left", x.settle(), 1);
        Due.same("though another waits", Made.waiters(x, 0), "3");
    }

    @Says(promise = 19, text = "could have it by a bid of the round, with as many points as were bid")
    static void whoMovesUpPaysWhatWasBid() {
        Classfederation x = oneSeat(3);
        x.bid(1, 0, 90);
        x.settle();
        x.giveUp(2, 0);
        Due.same("not what was bid since", Made.holders(x, 0), "1:11");
        Due.is("points", x.points(1), 89);
        Due.is("who moves up", x.giveUp(1, 0), 0);
        Due.same("holders", Made.holders(x, 0), "0:10");
    }

    @Says(promise = 19, text = "could have it by a bid of the round, with as many points as were bid")
    static void whoLeavesTheQueueLeavesTheOthersAsTheyAre() {
        Classfederation x = Made.schoolWithRights(1, 5, 1);
        x.offer(0, 0, 0, false);
        x.offer(0, 1, 0, false);
        for (int pupil = 0; pupil < 5; pupil++) {
            x.bid(pupil, 0, 50 - 7 * pupil);
        }
        x.settle();
        x.bid(2, 1, 1);
        x.settle();
        Due.same("2 has another seat of the exam", Made.waiters(x, 0), "1 3 4");
        Due.is("who moves up", x.giveUp(0, 0), 1);
        Due.same("holders", Made.holders(x, 0), "1:43");
        Due.is("who moves up", x.giveUp(1, 0), 3);
        Due.same("holders", Made.holders(x, 0), "3:29");
        Due.is("who moves up", x.giveUp(3, 0), 4);
        Due.same("holders", Made.holders(x, 0), "4:22");
    }

    @Says(promise = 19, text = "could have it by a bid of the round, with as many points as were bid")
    static void whoHasJustThePointsMovesUp() {
        Classfederation x = withAWaiterOf60(40);
        Due.is("60 of 60", x.giveUp(0, 0), 1);
        Due.is("points", x.points(1), 0);
    }

    @Says(promise = 19, text = "could have it by a bid of the round, with as many points as were bid")
    static void whoHasOnePointTooFewDoesNotMoveUp() {
        Classfederation x = withAWaiterOf60(41);
        Due.is("60 of 59", x.giveUp(0, 0), -1);
        Due.is("points", x.points(1), 59);
    }

    @Says(promise = 19, text = "could have it by a bid of the round, with as many points as were bid")
    static void whoCanHaveNoSeatDoesNotMoveUp() {
        Classfederation x = oneSeat(6);
        Made.everywhere(x, 4, 0, 'r', 0);
        x.write(2, 3, 0, 'r', 0);
        x.write(1, 2, 0, 'm', 0);
        x.write(0, 1, 0, 'm', 0);
        Due.is("no right, right apart, a mark by its owner, a mark elsewhere", x.giveUp(5, 0), 1);
    }

    @Says(promise = 19, text = "could have it by a bid of the round, with as many points as were bid")
    static void whoHasNoOpenResitDoesNotMoveUp() {
        Classfederation x = Made.schoolWithRights(1, 4, 1);
        x.offer(0, 0, 0, true);
        for (int pupil = 0; pupil < 4; pupil++) {
            Made.everywhere(x, pupil, 0, 'm', 49);
            x.bid(pupil, 0, 10);
        }
        x.settle();
        Made.everywhere(x, 1, 0, 'm', 50);
        x.write(0, 2, 0, 'm', 48);
        Due.is("50, apart, 49", x.giveUp(0, 0), 3);
    }

    @Says(promise = 19, text = "could have it by a bid of the round, with as many points as were bid")
    static void whoHasAnotherSeatAtTheSlotDoesNotMoveUp() {
        Classfederation x = Made.schoolWithRights(2, 2, 1, 1);
        x.offer(0, 0, 0, false);
        x.offer(1, 0, 1, false);
        x.bid(0, 0, 20);
        x.bid(1, 0, 10);
        x.settle();
        x.bid(1, 1, 5);
        x.settle();
        Due.is("nobody", x.giveUp(0, 0), -1);
        Due.same("the pupil waits on", Made.waiters(x, 0), "1");
    }

    @Says(promise = 19, text = "who could not is passed over, and waits on.")
    static void whoIsPassedOverKeepsThePlace() {
        Classfederation x = oneSeat(4);
        Made.everywhere(x, 2, 0, 'r', 0);
        Due.is("the second", x.giveUp(3, 0), 1);
        Due.same("who was passed over waits on, ahead", Made.waiters(x, 0), "2 0");
        Made.everywhere(x, 2, 0, 'r', 1);
        Due.is("and moves up when it can be", x.giveUp(1, 0), 2);
        Due.same("for what was bid then", Made.holders(x, 0), "2:12");
    }

    @Says(promise = 19, text = "To give a seat up brings half of what was paid back, cut.")
    static void giveUpBringsHalfBackCut() {
        int[][] halves = {{1, 0}, {2, 1}, {3, 1}, {99, 49}, {100, 50}};
        for (int[] half : halves) {
            Classfederation x = Made.pupils(1);
            x.bid(0, 0, half[0]);
            x.settle();
            x.giveUp(0, 0);
            Due.is("points after " + half[0] + " paid", x.points(0), 100 - half[0] + half[1]);
            Due.is("refunds after " + half[0] + " paid", x.refunds(), half[1]);
            Due.isSo("isTrue", x.isTrue());
        }
    }

    @Says(promise = 19, text = "Throws `IndexOutOfBoundsException` if there is no such pupil or offer")
    static void giveUpOfNoSuchPupil() {
        Due.knowsNumbers("pupil", Made::pupils, 10, (x, pupil) -> x.giveUp(pupil, 0));
    }

    @Says(promise = 19, text = "Throws `IndexOutOfBoundsException` if there is no such pupil or offer")
    static void giveUpOfNoSuchOffer() {
        Due.knowsNumbers("offer", Made::offers, 12, (x, offer) -> x.giveUp(0, offer));
    }

    @Says(promise = 19, text = "Throws `UnsupportedOperationException` if the offer is closed, or the pupil has no seat of it")
    static void giveUpOfAClosedOffer() {
        Due.refuses("who sat", Made::lively, UnsupportedOperationException.class, x -> x.giveUp(2, 3));
        Due.refuses("who has no seat of it", Made::lively, UnsupportedOperationException.class, x -> x.giveUp(0, 3));
    }

    @Says(promise = 19, text = "Throws `UnsupportedOperationException` if the offer is closed, or the pupil has no seat of it")
    static void giveUpWithoutASeat() {
        Class<UnsupportedOperationException> due = UnsupportedOperationException.class;
        Due.refuses("who waits", Made::lively, due, x -> x.giveUp(1, 0));
        Due.refuses("who bids", Made::lively, due, x -> x.giveUp(2, 4));
        Due.refuses("who has one of another offer", Made::lively, due, x -> x.giveUp(0, 1));
        Due.refuses("given up", SeatsTest::livelyWithOneGivenUp, due, x -> x.giveUp(0, 0));
        Due.refuses("lost by a move", SeatsTest::livelyWithOneLost, due, x -> x.giveUp(0, 0));
    }

    @Says(promise = 19, text = Says.FIRST)
    static void giveUpOfNoSuchPupilOrOfferComesFirst() {
        Due.refuses("no pupil, closed", Made::lively, IndexOutOfBoundsException.class, x -> x.giveUp(3, 3));
        Due.refuses("no pupil, no seat", Made::lively, IndexOutOfBoundsException.class, x -> x.giveUp(-1, 4));
    }

    // Promise 20: move

    @Says(promise = 20, text = "An offer can be moved to another slot, where its room is free then.")
    static void moveLeavesTheOldSlotFree() {
        Classfederation x = Made.offers(2);
        x.move(0, 4);
        Due.is("slotOf", x.slotOf(0), 4);
        Due.is("another offer stays", x.slotOf(1), 0);
        Due.is("a new offer where it was", x.offer(0, 0, 0, false), 2);
        x.move(2, 3);
        x.move(0, 0);
        Due.is("and back", x.slotOf(0), 0);
    }

    @Says(promise = 20, text = "`slot`: the slot")
    static void moveToTheFirstAndTheLastSlot() {
        Classfederation x = Made.offers(1);
        x.move(0, 5);
        Due.is("slotOf", x.slotOf(0), 5);
        x.move(0, 0);
        Due.is("slotOf", x.slotOf(0), 0);
    }

    @Says(promise = 20, text = "Returns how many lost their seats.")
    static void moveWhereNobodyOneAndAllLose() {
        Due.is("nobody has a seat", Made.offers(1).move(0, 1), 0);
        Due.is("nobody has another there", sixSeatsAndSoManyThere(0).move(0, 1), 0);
        Due.is("one", sixSeatsAndSoManyThere(1).move(0, 1), 1);
        Classfederation x = sixSeatsAndSoManyThere(6);
        Due.is("all six", x.move(0, 1), 6);
        Due.is("holders", x.holders(0), 0);
        Due.is("all is back", x.points(5), 95);
    }

    @Says(promise = 20, text = "Moves an offer to another slot.")
    static void moveKeepsTheSeatsOfOtherOffers() {
        Classfederation x = sixSeatsAndSoManyThere(6);
        x.move(0, 1);
        Due.same("holders of the other", Made.holders(x, 1), "0:5 1:5 2:5 3:5 4:5 5:5");
    }

    @Says(promise = 20, text = "Those who have a seat of it, by rising pupils: who has another seat at the new slot loses this one, and gets back what was paid")
    static void whoHasAnotherSeatThereLosesThisOne() {
        Classfederation x = Made.schoolWithRights(2, 3, 3, 6);
        x.offer(0, 0, 0, false);
        x.offer(1, 1, 1, false);
        x.bid(0, 0, 31);
        x.bid(1, 0, 30);
        x.bid(2, 0, 29);
        x.bid(1, 1, 10);
        x.settle();
        Due.is("move", x.move(0, 1), 1);
        Due.same("holders", Made.holders(x, 0), "0:16 2:15");
        Due.is("all back", x.points(1), 90);
        Due.is("refunds", x.refunds(), 15 + 30 + 14);
        Due.isSo("isTrue", x.isTrue());
    }

    @Says(promise = 20, text = "Those who have a seat of it, by rising pupils: who has another seat at the new slot loses this one, and gets back what was paid")
    static void whoLosesGetsBackWhatWasLeftPaid() {
        Classfederation x = sixSeatsAndSoManyThere(1);
        x.move(0, 2);
        Due.is("half of 10 back", x.points(0), 90);
        Due.is("loses", x.move(0, 1), 1);
        Due.is("the other half too", x.points(0), 95);
        Due.is("refunds", x.refunds(), 10 + 5 * 5 + 5 * 2);
    }

    @Says(promise = 20, text = "others keep it, and get half of that, cut, back; what they have paid is less by that.")
    static void whoKeepsGetsHalfBackCut() {
        int[][] halves = {{1, 0}, {2, 1}, {3, 1}, {99, 49}, {100, 50}};
        for (int[] half : halves) {
            Classfederation x = Made.pupils(1);
            x.bid(0, 0, half[0]);
            x.settle();
            x.move(0, 1);
            Due.is("paid of " + half[0], x.paid(0, 0), half[0] - half[1]);
            Due.is("points after " + half[0] + " paid", x.points(0), 100 - half[0] + half[1]);
            Due.is("refunds after " + half[0] + " paid", x.refunds(), half[1]);
            Due.isSo("isTrue", x.isTrue());
        }
    }

    @Says(promise = 20, text = "others keep it, and get half of that, cut, back; what they have paid is less by that.")
    static void whoKeepsGetsHalfBackAgainUntil1IsLeft() {
        Classfederation x = Made.pupils(1);
        x.bid(0, 0, 100);
        x.settle();
        int[] paid = {50, 25, 13, 7, 4, 2, 1, 1};
        for (int i = 0; i < 8; i++) {
            x.move(0, 1 + i % 2);
            Due.is("paid", x.paid(0, 0), paid[i]);
            Due.is("points", x.points(0), 100 - paid[i]);
        }
        x.giveUp(0, 0);
        Due.is("half of 1 is none", x.points(0), 99);
    }

    @Says(promise = 20, text = "Then those who wait move up, as long as a seat is free and somebody can have it.")
    static void moveFillsEachSeatThatWasLost() {
        Classfederation x = lostByAMove();
        Due.is("two lose", x.move(0, 1), 2);
        Due.same("two move up, one with another seat there is passed over", Made.holders(x, 0), "3:27 4:26");
        Due.same("waiters", Made.waiters(x, 0), "2 5");
        Due.is("who moved up paid all", x.points(3), 73);
    }

    @Says(promise = 20, text = "Then those who wait move up, as long as a seat is free and somebody can have it.")
    static void moveWhereAllSixLoseAndAllWhoWaitMoveUp() {
        Classfederation x = Made.schoolWithRights(2, 10, 6, 6);
        x.offer(0, 0, 0, false);
        x.offer(1, 1, 1, false);
        for (int pupil = 0; pupil < 10; pupil++) {
            x.bid(pupil, 0, 30 - pupil);
            x.bid(pupil, 1, pupil < 6 ? 10 : 1);
        }
        x.settle();
        Due.same("waiters", Made.waiters(x, 0), "6 7 8 9");
        Due.is("six lose", x.move(0, 1), 6);
        Due.same("four of ten move up", Made.holders(x, 0), "6:24 7:23 8:22 9:21");
        Due.same("nobody waits", Made.waiters(x, 0), "");
    }

    @Says(promise = 20, text = "Then those who wait move up, as long as a seat is free and somebody can have it.")
    static void moveLeavesSeatsFreeIfNobodyCanHaveThem() {
        Classfederation x = lostByAMove();
        for (int pupil = 3; pupil < 6; pupil++) {
            Made.everywhere(x, pupil, 0, 'r', 0);
        }
        Due.is("two lose", x.move(0, 1), 2);
        Due.same("nobody moves up", Made.holders(x, 0), "");
        Due.same("they wait on", Made.waiters(x, 0), "2 3 4 5");
    }

    @Says(promise = 20, text = "Then those who wait move up, as long as a seat is free and somebody can have it.")
    static void moveFillsSeatsThatWereFreeBefore() {
        Classfederation x = Made.schoolWithRights(1, 6, 3);
        x.offer(0, 0, 0, false);
        for (int pupil = 0; pupil < 6; pupil++) {
            x.bid(pupil, 0, 10);
        }
        x.settle();
        for (int pupil = 3; pupil < 6; pupil++) {
            Made.everywhere(x, pupil, 0, 'r', 0);
        }
        x.giveUp(0, 0);
        x.giveUp(1, 0);
        Due.is("two seats are free", x.holders(0), 1);
        Made.everywhere(x, 4, 0, 'r', 1);
        Made.everywhere(x, 5, 0, 'r', 1);
        Due.is("nobody loses", x.move(0, 3), 0);
        Due.same("two move up", Made.holders(x, 0), "2:5 4:10 5:10");
        Due.same("who could not waits on", Made.waiters(x, 0), "3");
    }

    @Says(promise = 20, text = "Then those who wait move up, as long as a seat is free and somebody can have it.")
    static void whoWasKeptFromItByTheOldSlotMovesUp() {
        Classfederation x = Made.schoolWithRights(2, 2, 1, 6);
        x.offer(0, 0, 0, false);
        x.offer(1, 0, 1, false);
        x.bid(0, 0, 20);
        x.bid(1, 0, 10);
        x.settle();
        x.bid(1, 1, 10);
        x.settle();
        Due.is("1 has another seat at slot 0", x.giveUp(0, 0), -1);
        Due.is("nobody loses", x.move(0, 1), 0);
        Due.same("1 moves up", Made.holders(x, 0), "1:10");
    }

    @Says(promise = 20, text = "Throws `IndexOutOfBoundsException` if there is no such offer")
    static void moveOfNoSuchOffer() {
        Due.knowsNumbers("offer", Made::offers, 12, (x, offer) -> x.move(offer, 4));
    }

    @Says(promise = 20, text = "Throws `IllegalArgumentException` if the slot is out of range")
    static void moveToASlotJustOutside() {
        Due.refusesEach("move to", Made::lively, IllegalArgumentException.class, Due.outside(0, 5),
                (x, slot) -> x.move(0, slot));
    }

    @Says(promise = 20, text = "Throws `UnsupportedOperationException` if the offer is closed, it is the same slot, it was sat, or the room is taken there")
    static void moveOfAClosedOffer() {
        Due.refuses("to a free slot", Made::lively, UnsupportedOperationException.class, x -> x.move(3, 4));
        Due.refuses("to its own", Made::lively, UnsupportedOperationException.class, x -> x.move(3, 5));
    }

    @Says(promise = 20, text = "Throws `UnsupportedOperationException` if the offer is closed, it is the same slot, it was sat, or the room is taken there")
    static void moveToTheSameSlot() {
        Due.refuses("where one has a seat", Made::lively, UnsupportedOperationException.class, x -> x.move(0, 0));
        Due.refuses("where nobody has", Made::lively, UnsupportedOperationException.class, x -> x.move(4, 3));
    }

    @Says(promise = 20, text = "Throws `UnsupportedOperationException` if the offer is closed, it is the same slot, it was sat, or the room is taken there")
    static void moveToASlotThatWasSat() {
        Due.refuses("where the room is free", Made::lively, UnsupportedOperationException.class, x -> x.move(1, 5));
        Due.refuses("where the room is taken too", Made::lively, UnsupportedOperationException.class,
                x -> x.move(0, 5));
    }

    @Says(promise = 20, text = "Throws `UnsupportedOperationException` if the offer is closed, it is the same slot, it was sat, or the room is taken there")
    static void moveToWhereTheRoomIsTaken() {
        Due.refuses("taken", Made::lively, UnsupportedOperationException.class, x -> x.move(0, 3));
        Due.is("another room is taken there", Made.lively().move(0, 2), 0);
    }

    @Says(promise = 20, text = Says.FIRST)
    static void moveOfNoSuchOfferComesFirst() {
        Due.refusesEach("no offer, slot", Made::lively, IndexOutOfBoundsException.class, Due.outside(0, 5),
                (x, slot) -> x.move(5, slot));
        Due.refuses("no offer, slot 5, which was sat", Made::lively, IndexOutOfBoundsException.class,
                x -> x.move(-1, 5));
    }

    @Says(promise = 20, text = Says.FIRST)
    static void moveOutOfRangeComesBeforeClosed() {
        Due.refusesEach("closed, slot", Made::lively, IllegalArgumentException.class, Due.outside(0, 5),
                (x, slot) -> x.move(3, slot));
    }

    // Promise 22: refunds

    @Says(promise = 22, text = "Returns how many points came back in all.")
    static void refundsOfEachKindAddUp() {
        Classfederation x = Made.schoolWithRights(2, 2, 2, 2);
        x.offer(0, 0, 0, false);
        x.offer(1, 1, 1, false);
        x.bid(0, 0, 33);
        x.bid(1, 0, 40);
        x.bid(0, 1, 7);
        x.settle();
        Due.is("nothing back yet", x.refunds(), 0);
        x.giveUp(1, 0);
        Due.is("half of a seat given up", x.refunds(), 20);
        x.move(0, 3);
        Due.is("and half for a move", x.refunds(), 36);
        x.move(0, 1);
        Due.is("and all that was left of a seat lost", x.refunds(), 53);
        Made.everywhere(x, 0, 1, 'r', 0);
        x.sit(1);
        Due.is("and all for who is kept out", x.refunds(), 60);
        Due.is("points", x.points(0), 100);
    }

    @Says(promise = 22, text = "Returns how many.")
    static void refundsNoneAndMoreThanThePointsOfOne() {
        Due.is("none", new Classfederation().refunds(), 0);
        Classfederation x = Made.schoolWithRights(1, 6, 6);
        x.offer(0, 0, 0, false);
        for (int pupil = 0; pupil < 6; pupil++) {
            x.bid(pupil, 0, 100);
        }
        x.settle();
        x.move(0, 1);
        Due.is("six halves", x.refunds(), 300);
        for (int pupil = 0; pupil < 6; pupil++) {
            Made.everywhere(x, pupil, 0, 'r', 0);
        }
        x.sit(1);
        Due.is("and the other halves", x.refunds(), 600);
    }

    // Schools

    private static Classfederation livelyWithOneGivenUp() {
        Classfederation x = Made.lively();
        x.giveUp(0, 0);
        return x;
    }

    /** Pupil 0 has a seat of offer 1 too, at slot 1, and so loses the one of offer 0 by its move there. */
    private static Classfederation livelyWithOneLost() {
        Classfederation x = Made.lively();
        x.settle();
        x.move(0, 1);
        return x;
    }

    private static Classfederation livelyWithOneKeptOut() {
        Classfederation x = Made.lively();
        x.write(1, 0, 0, 'r', 0);
        x.sit(0);
        return x;
    }

    /** Pupil 0 has a seat of offer 1, a resit, at slot 1, and none of the first one. */
    private static Classfederation withAResitAlone() {
        Classfederation x = Made.exams(1);
        Made.everywhere(x, 0, 0, 'm', 20);
        x.bid(0, 1, 10);
        x.settle();
        return x;
    }

    /** An offer of six seats, for which so many pupils, from 0 on, bid 10 and more. */
    private static Classfederation sixSeats(int bidders) {
        Classfederation x = Made.schoolWithRights(1, 10, 6);
        x.offer(0, 0, 0, false);
        for (int pupil = 0; pupil < bidders; pupil++) {
            x.bid(pupil, 0, 10 + pupil);
        }
        x.settle();
        return x;
    }

    /** An offer of one seat, that the last of so many pupils has; the others wait, by falling pupils, for 10 and more. */
    private static Classfederation oneSeat(int pupils) {
        Classfederation x = Made.pupils(pupils);
        for (int pupil = 0; pupil < pupils; pupil++) {
            x.bid(pupil, 0, 10 + pupil);
        }
        x.settle();
        return x;
    }

    /** An offer of one seat of ten pupils, one of whom has it while another waits. */
    private static Classfederation oneSeatFor(int holder, int waiter) {
        Classfederation x = Made.pupils(10);
        x.bid(holder, 0, 10);
        x.bid(waiter, 0, 10);
        x.settle();
        return x;
    }

    /** Pupil 1 waits for offer 0 with 60, and paid so many of 100 for another offer. */
    private static Classfederation withAWaiterOf60(int paid) {
        Classfederation x = Made.schoolWithRights(2, 2, 1);
        x.offer(0, 0, 0, false);
        x.offer(1, 1, 0, false);
        x.bid(0, 0, 70);
        x.bid(1, 0, 60);
        x.settle();
        x.bid(1, 1, paid);
        x.settle();
        return x;
    }

    /** Six pupils have a seat of offer 0, at slot 0, for 10 each; so many of them have one at slot 1 too, for 5. */
    private static Classfederation sixSeatsAndSoManyThere(int many) {
        Classfederation x = Made.schoolWithRights(2, 6, 6, 6);
        x.offer(0, 0, 0, false);
        x.offer(1, 1, 1, false);
        for (int pupil = 0; pupil < 6; pupil++) {
            x.bid(pupil, 0, 10);
            if (pupil < many) {
                x.bid(pupil, 1, 5);
            }
        }
        x.settle();
        return x;
    }

    /** The pupils 0 and 1 have both seats of offer 0, 2 to 5 wait for it; 0, 1 and 2 have a seat at slot 1 too. */
    private static Classfederation lostByAMove() {
        Classfederation x = Made.schoolWithRights(2, 6, 2, 6);
        x.offer(0, 0, 0, false);
        x.offer(1, 1, 1, false);
        for (int pupil = 0; pupil < 6; pupil++) {
            x.bid(pupil, 0, 30 - pupil);
            if (pupil < 3) {
                x.bid(pupil, 1, 1);
            }
        }
        x.settle();
        return x;
    }
}
