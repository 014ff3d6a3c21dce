import java.util.NoSuchElementException;

/** Promises 6 to 11: bids, rounds and points. */
public final class RoundsTest {
    private RoundsTest() { }

    public static void main(String[] args) throws IllegalAccessException {
        Suite.run(RoundsTest.class);
    }

    // Promise 6: bid

    @Says(promise = 6, text = "Bids for an offer.")
    static void bidIsSettled() {
        Classfederation x = Made.pupils(1);
        x.bid(0, 0, 10);
        Due.is("bids", x.bids(), 1);
        Due.is("a bid is no seat yet", x.holders(0), 0);
        Due.is("and costs nothing yet", x.points(0), 100);
        x.settle();
        Due.same("holders", Made.holders(x, 0), "0:10");
    }

    @Says(promise = 6, text = "Bids for an offer.")
    static void bidNeedsNoRightAndNoFreeSeat() {
        Classfederation x = Made.lively();
        Made.everywhere(x, 0, 1, 'r', 0);
        Due.is("without the right", x.bid(0, 1, 1), 1);
        Due.is("with a seat of it", x.bid(0, 0, 1), 2);
        Due.is("while waiting for it", x.bid(1, 0, 1), 10);
        Due.is("a resit that is not open", x.bid(0, 2, 1), 3);
    }

    @Says(promise = 6, text = "`points`: the points, 1 to 100")
    static void bidOf1() {
        Classfederation x = Made.pupils(1);
        Due.is("bid", x.bid(0, 0, 1), 1);
        x.settle();
        Due.is("paid", x.paid(0, 0), 1);
        Due.is("points", x.points(0), 99);
    }

    @Says(promise = 6, text = "`points`: the points, 1 to 100")
    static void bidOf100() {
        Classfederation x = Made.pupils(1);
        Due.is("bid", x.bid(0, 0, 100), 100);
        x.settle();
        Due.is("paid", x.paid(0, 0), 100);
        Due.is("points", x.points(0), 0);
    }

    @Says(promise = 6, text = "Returns the sum of the bids of the pupil for the round.")
    static void bidReturnsTheSum() {
        Classfederation x = Made.full();
        for (int offer = 0; offer < 12; offer++) {
            Due.is("for offer " + offer, x.bid(3, offer, 8), 8 * (offer + 1));
        }
        Due.is("of another pupil alone", x.bid(9, 0, 5), 5);
        Due.is("in place of an earlier one", x.bid(3, 11, 1), 89);
        x.settle();
        Due.is("in the next round anew", x.bid(9, 1, 7), 7);
    }

    @Says(promise = 6, text = "Returns the sum of the bids of the pupil for the round.")
    static void bidSumAfterOneIsTakenBack() {
        Classfederation x = Made.offers(3);
        x.bid(0, 0, 10);
        x.bid(0, 1, 20);
        x.unbid(0, 0);
        Due.is("bid", x.bid(0, 2, 30), 50);
    }

    @Says(promise = 6, text = "Returns the sum of the bids of the pupil for the round.")
    static void bidSumHoldsOneForAnOfferClosedSince() {
        Classfederation x = Made.lively();
        x.sit(1);
        Due.is("bid", x.bid(0, 4, 5), 17);
    }

    @Says(promise = 6, text = "Throws `IndexOutOfBoundsException` if there is no such pupil or offer")
    static void bidOfNoSuchPupil() {
        Due.knowsNumbers("pupil", Made::pupils, 10, (x, pupil) -> x.bid(pupil, 0, 1));
    }

    @Says(promise = 6, text = "Throws `IndexOutOfBoundsException` if there is no such pupil or offer")
    static void bidForNoSuchOffer() {
        Due.knowsNumbers("offer", Made::offers, 12, (x, offer) -> x.bid(0, offer, 1));
    }

    @Says(promise = 6, text = "Throws `IllegalArgumentException` if a number is out of range")
    static void bidJustOutside() {
        Due.refusesEach("the first bid of", Made::lively, IllegalArgumentException.class, Due.outside(1, 100),
                (x, points) -> x.bid(0, 4, points));
        Due.refusesEach("in place of another, a bid of", Made::lively, IllegalArgumentException.class,
                Due.outside(1, 100), (x, points) -> x.bid(0, 1, points));
        Due.refuses("a bid of -1", Made::lively, IllegalArgumentException.class, x -> x.bid(0, 4, -1));
    }

    @Says(promise = 6, text = "Throws `UnsupportedOperationException` if the offer is closed, or bids would be more than the points")
    static void bidForAClosedOffer() {
        Due.refuses("closed", Made::lively, UnsupportedOperationException.class, x -> x.bid(0, 3, 1));
        Due.refuses("closed since the pupil bid for it", RoundsTest::livelyWithSlot1Sat,
                UnsupportedOperationException.class, x -> x.bid(0, 1, 12));
    }

    @Says(promise = 6, text = "Throws `UnsupportedOperationException` if the offer is closed, or bids would be more than the points")
    static void bidsAsManyAsThePointsAndOneMore() {
        Due.is("12 and 73 of 85", Made.lively().bid(0, 4, 73), 85);
        Due.refuses("12 and 74 of 85", Made::lively, UnsupportedOperationException.class, x -> x.bid(0, 4, 74));
        Due.refuses("12 and 100 of 85", Made::lively, UnsupportedOperationException.class, x -> x.bid(0, 4, 100));
    }

    @Says(promise = 6, text = "Throws `UnsupportedOperationException` if the offer is closed, or bids would be more than the points")
    static void bidInPlaceOfAnotherAsMuchAsThePointsAndOneMore() {
        Due.is("85 in place of 12", Made.lively().bid(0, 1, 85), 85);
        Due.refuses("86 in place of 12", Made::lively, UnsupportedOperationException.class, x -> x.bid(0, 1, 86));
        Due.is("45 in place of 9, with 25, of 70", Made.lively().bid(2, 4, 45), 70);
        Due.refuses("46 in place of 9, with 25, of 70", Made::lively, UnsupportedOperationException.class,
                x -> x.bid(2, 4, 46));
    }

    @Says(promise = 6, text = "Throws `UnsupportedOperationException` if the offer is closed, or bids would be more than the points")
    static void bidWithoutPoints() {
        Due.refuses("1 of 0", RoundsTest::withAllPointsPaid, UnsupportedOperationException.class, x -> x.bid(0, 1, 1));
        Classfederation x = withAllPointsPaid();
        x.move(0, 3);
        Due.refuses("51 of the 50 that came back", () -> {
            Classfederation y = withAllPointsPaid();
            y.move(0, 3);
            return y;
        }, UnsupportedOperationException.class, y -> y.bid(0, 1, 51));
        Due.is("50 of them", x.bid(0, 1, 50), 50);
    }

    @Says(promise = 6, text = "Throws `UnsupportedOperationException` if the offer is closed, or bids would be more than the points")
    static void bidWhereToldBidsAreMoreThanThePointsSinceAMoveUp() {
        Due.refuses("still more", RoundsTest::withBidsOf80And50Points, UnsupportedOperationException.class,
                x -> x.bid(1, 1, 51));
        Due.refuses("one more beside it", RoundsTest::withBidsOf80And50Points, UnsupportedOperationException.class,
                x -> x.bid(1, 2, 1));
        Due.is("just as many in its place", withBidsOf80And50Points().bid(1, 1, 50), 50);
    }

    @Says(promise = 6, text = Says.FIRST)
    static void bidOfNoSuchPupilOrForNoSuchOfferComesFirst() {
        Class<IndexOutOfBoundsException> due = IndexOutOfBoundsException.class;
        for (int points : new int[] {0, 101, 86}) {
            Due.refuses("no pupil, points " + points, Made::lively, due, x -> x.bid(3, 1, points));
            Due.refuses("no offer, points " + points, Made::lively, due, x -> x.bid(0, 5, points));
        }
        Due.refuses("no pupil, closed", Made::lively, due, x -> x.bid(-1, 3, 1));
        Due.refuses("no pupil, closed, points 0", Made::lively, due, x -> x.bid(3, 3, 0));
    }

    @Says(promise = 6, text = Says.FIRST)
    static void bidOutOfRangeComesBeforeClosedOrTooMuch() {
        Due.refusesEach("closed, points", Made::lively, IllegalArgumentException.class, Due.outside(1, 100),
                (x, points) -> x.bid(0, 3, points));
        Due.refusesEach("no points left, points", RoundsTest::withAllPointsPaid, IllegalArgumentException.class,
                Due.outside(1, 100), (x, points) -> x.bid(0, 1, points));
    }

    // Promise 7: unbid

    @Says(promise = 7, text = "Takes a bid back.")
    static void unbidTakesJustThisBidBack() {
        Classfederation x = Made.lively();
        x.unbid(2, 4);
        Due.is("bids", x.bids(), 3);
        Due.raises("again", NoSuchElementException.class, () -> x.unbid(2, 4));
        Due.is("the same pupil's other one", x.unbid(2, 0), 25);
        Due.is("another pupil's for this offer", x.unbid(1, 4), 9);
        Due.is("the last one", x.unbid(0, 1), 12);
        Due.is("bids", x.bids(), 0);
        Due.is("nothing is settled", x.settle(), 0);
    }

    @Says(promise = 7, text = "Returns the points that were bid.")
    static void unbidReturnsThePointsThatStood() {
        Classfederation x = Made.pupils(1);
        x.bid(0, 0, 1);
        Due.is("the least", x.unbid(0, 0), 1);
        x.bid(0, 0, 100);
        Due.is("the greatest", x.unbid(0, 0), 100);
        x.bid(0, 0, 30);
        x.bid(0, 0, 40);
        Due.is("the later one", x.unbid(0, 0), 40);
        Due.is("points are there as before", x.points(0), 100);
    }

    @Says(promise = 7, text = "Returns the points that were bid.")
    static void unbidForAnOfferClosedSince() {
        Classfederation x = Made.lively();
        x.sit(1);
        Due.is("unbid", x.unbid(0, 1), 12);
    }

    @Says(promise = 7, text = "Returns the points that were bid.")
    static void unbidEachOfAsManyAsThereMayBe() {
        Classfederation x = withAsManyBidsAsThereMayBe();
        for (int offer = 11; offer >= 0; offer--) {
            for (int pupil = 0; pupil < 10; pupil++) {
                Due.is("unbid", x.unbid(pupil, offer), 1 + (pupil + offer) % 8);
            }
        }
        Due.is("bids", x.bids(), 0);
    }

    @Says(promise = 7, text = "Throws `IndexOutOfBoundsException` if there is no such pupil or offer")
    static void unbidOfNoSuchPupil() {
        Due.knowsNumbers("pupil", Made::pupils, 10, (x, pupil) -> x.unbid(pupil, 0));
    }

    @Says(promise = 7, text = "Throws `IndexOutOfBoundsException` if there is no such pupil or offer")
    static void unbidForNoSuchOffer() {
        Due.knowsNumbers("offer", Made::offers, 12, (x, offer) -> x.unbid(0, offer));
    }

    @Says(promise = 7, text = "Throws `NoSuchElementException` if there is none")
    static void unbidWhereThereIsNone() {
        Class<NoSuchElementException> due = NoSuchElementException.class;
        Due.refuses("nobody bid at all", () -> Made.pupils(1), due, x -> x.unbid(0, 0));
        Due.refuses("the pupil bid for others only", Made::lively, due, x -> x.unbid(2, 1));
        Due.refuses("others only bid for it", Made::lively, due, x -> x.unbid(0, 4));
        Due.refuses("settled", RoundsTest::livelySettled, due, x -> x.unbid(0, 1));
        Due.refuses("settled, and waits", RoundsTest::livelySettled, due, x -> x.unbid(2, 0));
        Due.refuses("taken back", RoundsTest::livelyWithOneTakenBack, due, x -> x.unbid(2, 4));
        Due.refuses("closed", Made::lively, due, x -> x.unbid(2, 3));
    }

    // Promise 8: bids

    @Says(promise = 8, text = "Returns how many bids are told for the round.")
    static void bidsAreThoseThatStand() {
        Classfederation x = Made.offers(2);
        x.bid(0, 0, 10);
        Due.is("one", x.bids(), 1);
        x.bid(0, 0, 20);
        Due.is("one in its place", x.bids(), 1);
        x.bid(0, 1, 20);
        Due.is("two", x.bids(), 2);
        Due.raises("refused", IllegalArgumentException.class, () -> x.bid(0, 1, 0));
        Due.is("two", x.bids(), 2);
        x.unbid(0, 0);
        Due.is("one taken back", x.bids(), 1);
        x.sit(0);
        Due.is("told ahead for a closed one", x.bids(), 1);
        x.settle();
        Due.is("settled", x.bids(), 0);
    }

    @Says(promise = 8, text = "Returns how many.")
    static void bidsNoneAndAsManyAsThereMayBe() {
        Due.is("none", new Classfederation().bids(), 0);
        Due.is("ten pupils for twelve offers", withAsManyBidsAsThereMayBe().bids(), 120);
    }

    // Promise 9: settle

    @Says(promise = 9, text = "Settles the round.")
    static void settleEndsTheRound() {
        Classfederation x = Made.lively();
        Due.is("settle", x.settle(), 2);
        Due.is("bids", x.bids(), 0);
        Due.is("rounds", x.rounds(), 2);
        Due.is("nothing is left to settle", x.settle(), 0);
        Due.same("seats as before", Made.holders(x, 1), "0:12 1:21");
    }

    @Says(promise = 9, text = "Returns how many seats were given.")
    static void settleWithoutBids() {
        Due.is("nothing there", new Classfederation().settle(), 0);
        Due.is("no bids", Made.full().settle(), 0);
    }

    @Says(promise = 9, text = "Returns how many seats were given.")
    static void settleWithOneBid() {
        Classfederation x = Made.pupils(1);
        x.bid(0, 0, 1);
        Due.is("settle", x.settle(), 1);
        x.giveUp(0, 0);
        Made.everywhere(x, 0, 0, 'r', 0);
        x.bid(0, 0, 1);
        Due.is("without the right", x.settle(), 0);
    }

    @Says(promise = 9, text = "Returns how many seats were given.")
    static void settleGivesAsManySeatsAsThereMayBe() {
        Classfederation x = Made.full();
        for (int pupil = 0; pupil < 10; pupil++) {
            for (int slot = 0; slot < 6; slot++) {
                x.bid(pupil, pupil < 6 ? slot : slot + 6, 16);
            }
        }
        Due.is("each pupil at each slot", x.settle(), 60);
        Due.is("takenShare", x.takenShare(), 60f / 72f);
        Due.is("meanPoints", x.meanPoints(), 4);
        Due.isSo("isTrue", x.isTrue());
    }

    @Says(promise = 9, text = "Each pupil has 100 points at first.")
    static void eachPupilHas100PointsAtFirst() {
        Classfederation x = Made.full();
        for (int pupil = 0; pupil < 10; pupil++) {
            Due.is("points", x.points(pupil), 100);
            Due.is("all of them can be bid", x.bid(pupil, 0, 100), 100);
        }
    }

    @Says(promise = 9, text = "at most one bid for an offer, later ones in place of earlier ones, as told then")
    static void laterBidStandsInPlaceOfTheEarlier() {
        Classfederation x = Made.pupils(2);
        x.bid(0, 0, 50);
        x.bid(1, 0, 30);
        x.bid(0, 0, 20);
        x.settle();
        Due.same("holders", Made.holders(x, 0), "1:30");
        Due.same("waiters", Made.waiters(x, 0), "0");
    }

    @Says(promise = 9, text = "at most one bid for an offer, later ones in place of earlier ones, as told then")
    static void laterBidOfAsManyIsToldThen() {
        Classfederation x = Made.pupils(3);
        x.bid(0, 0, 20);
        x.bid(1, 0, 20);
        x.bid(2, 0, 20);
        x.bid(0, 0, 20);
        x.settle();
        Due.same("holders", Made.holders(x, 0), "1:20");
        Due.same("waiters", Made.waiters(x, 0), "2 0");
    }

    @Says(promise = 9, text = "at most one bid for an offer, later ones in place of earlier ones, as told then")
    static void refusedBidIsNotToldThen() {
        Classfederation x = Made.pupils(2);
        x.bid(0, 0, 20);
        x.bid(1, 0, 20);
        Due.raises("out of range", IllegalArgumentException.class, () -> x.bid(0, 0, 101));
        x.settle();
        Due.same("holders", Made.holders(x, 0), "0:20");
        Due.refuses("80 of 79 points, in place of 9 told before another's 9", Made::lively,
                UnsupportedOperationException.class, y -> y.bid(1, 4, 80));
    }

    @Says(promise = 9, text = "all bids of a pupil that are told for the round may not be more than the points")
    static void allBidsAsManyAsThePoints() {
        Classfederation x = Made.full();
        for (int offer = 0; offer < 10; offer++) {
            x.bid(0, offer, 10);
        }
        Due.raises("one more", UnsupportedOperationException.class, () -> x.bid(0, 10, 1));
        x.bid(0, 9, 9);
        Due.is("in place of one that was told", x.bid(0, 10, 1), 100);
        Due.is("another pupil's do not count", x.bid(1, 0, 100), 100);
    }

    @Says(promise = 9, text = "To settle a round, all bids are taken by falling points, of like ones by how early they were told")
    static void bidsAreTakenByFallingPoints() {
        Classfederation x = Made.schoolWithRights(1, 6, 2);
        x.offer(0, 0, 0, false);
        x.bid(0, 0, 10);
        x.bid(1, 0, 30);
        x.bid(2, 0, 20);
        x.bid(5, 0, 30);
        x.bid(3, 0, 20);
        x.bid(4, 0, 40);
        Due.is("seats given", x.settle(), 2);
        Due.same("holders", Made.holders(x, 0), "1:30 4:40");
        Due.same("waiters", Made.waiters(x, 0), "5 2 3 0");
    }

    @Says(promise = 9, text = "To settle a round, all bids are taken by falling points, of like ones by how early they were told")
    static void bidsAreTakenByPointsOverAllOffers() {
        Classfederation x = Made.offers(3);
        x.bid(0, 0, 10);
        x.bid(0, 1, 30);
        x.bid(0, 2, 20);
        Due.is("one of the three at slot 0", x.settle(), 1);
        Due.is("the dearest", x.seat(0, 0, false), 1);
    }

    @Says(promise = 9, text = "To settle a round, all bids are taken by falling points, of like ones by how early they were told")
    static void likeBidsAreTakenByHowEarlyTheyWereTold() {
        Classfederation x = Made.pupils(10);
        for (int pupil = 9; pupil >= 0; pupil--) {
            x.bid(pupil, 0, 10);
        }
        x.unbid(6, 0);
        x.bid(6, 0, 10);
        x.settle();
        Due.same("holders", Made.holders(x, 0), "9:10");
        Due.same("waiters, 6 told anew", Made.waiters(x, 0), "8 7 5 4 3 2 1 0 6");
    }

    @Says(promise = 9, text = "a bid has a seat if the offer has one left")
    static void theLastSeatIsGivenAndNoneBehindIt() {
        Classfederation x = Made.schoolWithRights(1, 10, 6);
        x.offer(0, 0, 0, false);
        for (int pupil = 0; pupil < 5; pupil++) {
            x.bid(pupil, 0, 10);
        }
        Due.is("all but the last seat", x.settle(), 5);
        x.bid(5, 0, 1);
        x.bid(6, 0, 1);
        Due.is("the last seat", x.settle(), 1);
        Due.same("waiters", Made.waiters(x, 0), "6");
        x.bid(7, 0, 100);
        Due.is("none", x.settle(), 0);
        Due.is("holders", x.holders(0), 6);
    }

    @Says(promise = 9, text = "a bid has a seat if the offer has one left, the pupil can have a seat of it")
    static void onlyWhoMaySitHasASeat() {
        Classfederation x = Made.school(1, 3, 6);
        x.offer(0, 0, 0, false);
        x.write(0, 0, 0, 'r', 1);
        Made.everywhere(x, 1, 0, 'r', 1);
        for (int pupil = 0; pupil < 3; pupil++) {
            x.bid(pupil, 0, 10);
        }
        Due.is("seats given", x.settle(), 1);
        Due.same("holders", Made.holders(x, 0), "1:10");
    }

    @Says(promise = 9, text = "has none of the same exam, first and resit apart")
    static void noSecondSeatOfTheSameExam() {
        Classfederation x = Made.schoolWithRights(1, 1, 6);
        x.offer(0, 0, 0, false);
        x.offer(0, 1, 0, false);
        x.bid(0, 0, 10);
        x.bid(0, 1, 9);
        Due.is("in one round", x.settle(), 1);
        x.bid(0, 1, 50);
        Due.is("in a later one", x.settle(), 0);
        x.sit(0);
        x.bid(0, 1, 50);
        Due.is("where the first was sat", x.settle(), 0);
        Due.is("points", x.points(0), 90);
    }

    @Says(promise = 9, text = "has none of the same exam, first and resit apart")
    static void aFirstAndAResitOfTheSameExam() {
        Classfederation x = Made.exams(1);
        x.bid(0, 0, 10);
        x.settle();
        Made.everywhere(x, 0, 0, 'm', 30);
        x.bid(0, 1, 10);
        Due.is("the resit too", x.settle(), 1);
        Due.is("first", x.seat(0, 0, false), 0);
        Due.is("resit", x.seat(0, 0, true), 1);
    }

    @Says(promise = 9, text = "and none at the same slot")
    static void noSecondSeatAtTheSameSlot() {
        Classfederation x = Made.schoolWithRights(2, 1, 6, 6);
        x.offer(0, 0, 0, false);
        x.offer(1, 0, 1, false);
        x.offer(1, 1, 1, false);
        x.bid(0, 0, 10);
        x.bid(0, 1, 9);
        x.bid(0, 2, 8);
        Due.is("seats given", x.settle(), 2);
        Due.is("at another slot", x.seat(0, 1, false), 2);
        Due.is("nobody waits", x.waiting(1), 0);
    }

    @Says(promise = 9, text = "and has the points; these are paid then.")
    static void justThePointsAreEnough() {
        Classfederation x = withBidsOf80And50Points();
        x.bid(1, 1, 50);
        Due.is("50 of 50", x.settle(), 1);
        Due.is("paid", x.points(1), 0);
        Due.same("holders", Made.holders(x, 1), "1:50");
    }

    @Says(promise = 9, text = "and has the points; these are paid then.")
    static void onePointTooFewIsNotEnough() {
        Classfederation x = Made.schoolWithRights(3, 2, 1);
        for (int exam = 0; exam < 3; exam++) {
            x.offer(exam, exam, 0, false);
        }
        x.bid(0, 0, 100);
        x.bid(1, 0, 60);
        x.settle();
        x.bid(1, 1, 41);
        x.bid(1, 2, 40);
        Due.is("1 moves up for 60", x.giveUp(0, 0), 1);
        Due.is("of 40 points left", x.settle(), 1);
        Due.is("not the one of 41", x.holders(1), 0);
        Due.is("nor does it wait", x.waiting(1), 0);
        Due.same("but the one of 40", Made.holders(x, 2), "1:40");
        Due.is("all points gone", x.points(1), 0);
    }

    @Says(promise = 9, text = "A bid that has none only because no seat is left waits behind those that wait for this offer, if the pupil does not wait there")
    static void waitersStandBehindThoseOfEarlierRounds() {
        Classfederation x = Made.pupils(4);
        x.bid(0, 0, 50);
        x.bid(1, 0, 10);
        x.settle();
        Due.same("one", Made.waiters(x, 0), "1");
        x.bid(2, 0, 80);
        x.bid(3, 0, 90);
        x.settle();
        Due.same("dearer ones of a later round", Made.waiters(x, 0), "1 3 2");
        Due.is("they have paid nothing", x.points(3), 100);
    }

    @Says(promise = 9, text = "A bid that has none only because no seat is left waits behind those that wait for this offer, if the pupil does not wait there")
    static void whoWaitsThereWaitsOnAsBefore() {
        Classfederation x = Made.pupils(3);
        x.bid(0, 0, 50);
        x.bid(1, 0, 40);
        x.bid(2, 0, 30);
        x.settle();
        x.bid(1, 0, 95);
        x.settle();
        Due.same("at the same place, once", Made.waiters(x, 0), "1 2");
        Due.is("who moves up", x.giveUp(0, 0), 1);
        Due.same("with as many points as were bid first", Made.holders(x, 0), "1:40");
    }

    @Says(promise = 9, text = "A bid that has none only because no seat is left waits behind those that wait for this offer, if the pupil does not wait there")
    static void asManyWaitAsThereMayBe() {
        Classfederation x = Made.pupils(10);
        for (int pupil = 0; pupil < 10; pupil++) {
            x.bid(pupil, 0, 10 + pupil);
        }
        x.settle();
        Due.same("waiters", Made.waiters(x, 0), "8 7 6 5 4 3 2 1 0");
        for (int pupil = 0; pupil < 9; pupil++) {
            x.bid(pupil, 0, 10);
        }
        x.settle();
        Due.same("once more", Made.waiters(x, 0), "8 7 6 5 4 3 2 1 0");
    }

    @Says(promise = 9, text = "all others are gone.")
    static void bidsThatLackMoreThanASeatAreGone() {
        Classfederation x = fullOffer();
        Made.everywhere(x, 1, 0, 'r', 0);
        x.write(2, 2, 0, 'r', 0);
        x.write(1, 3, 0, 'm', 0);
        for (int pupil = 0; pupil < 6; pupil++) {
            x.bid(pupil, 0, 10);
        }
        Due.is("no right, right apart, mark, at the slot, of the exam, holder", x.settle(), 0);
        Due.is("nobody waits", x.waiting(0), 0);
        x.giveUp(4, 1);
        Due.is("nor later on", x.settle() + x.waiting(0), 0);
        x.bid(4, 0, 10);
        x.settle();
        Due.same("but who lacks a seat alone", Made.waiters(x, 0), "4");
    }

    @Says(promise = 9, text = "Those who have a seat, by moving up too, wait no more for offers of the same exam, first and resit apart.")
    static void whoHasASeatWaitsNoMoreForOffersOfTheExam() {
        Classfederation x = waitingForThreeOffers();
        x.bid(3, 3, 5);
        Due.is("a seat of the fourth offer of exam 0", x.settle(), 1);
        Due.same("waits no more for offer 0", Made.waiters(x, 0), "");
        Due.same("waits no more for offer 1", Made.waiters(x, 1), "");
        Due.same("waits on for another exam", Made.waiters(x, 2), "3");
    }

    @Says(promise = 9, text = "Those who have a seat, by moving up too, wait no more for offers of the same exam, first and resit apart.")
    static void whoMovesUpWaitsNoMoreForOffersOfTheExam() {
        Classfederation x = waitingForThreeOffers();
        Due.is("who moves up", x.giveUp(1, 1), 3);
        Due.same("waits no more for this offer", Made.waiters(x, 1), "");
        Due.same("waits no more for offer 0", Made.waiters(x, 0), "");
        Due.same("waits on for another exam", Made.waiters(x, 2), "3");
        Due.is("nobody is left to move up", x.giveUp(0, 0), -1);
    }

    @Says(promise = 9, text = "Those who have a seat, by moving up too, wait no more for offers of the same exam, first and resit apart.")
    static void whoHasAResitWaitsOnForTheFirst() {
        Classfederation x = Made.schoolWithRights(1, 2, 1, 1);
        x.offer(0, 0, 0, false);
        x.offer(0, 1, 0, true);
        x.bid(0, 0, 2);
        x.bid(1, 0, 1);
        x.settle();
        Made.everywhere(x, 1, 0, 'm', 10);
        x.bid(1, 1, 1);
        Due.is("a resit", x.settle(), 1);
        Due.same("waits on for the first", Made.waiters(x, 0), "1");
    }

    // Promise 10: rounds

    @Says(promise = 10, text = "Returns how many rounds were settled.")
    static void roundsCountEachSettle() {
        Classfederation x = Made.pupils(1);
        x.settle();
        Due.is("a round without bids", x.rounds(), 1);
        x.bid(0, 0, 1);
        Due.is("a bid ends none", x.rounds(), 1);
        x.settle();
        Due.is("a round with one", x.rounds(), 2);
    }

    @Says(promise = 10, text = "Returns how many.")
    static void roundsNoneAndAsManyAsThereMayBe() {
        Classfederation x = new Classfederation();
        Due.is("none", x.rounds(), 0);
        for (int i = 0; i < 510; i++) {
            x.settle();
        }
        Due.is("as the 512th call", x.rounds(), 510);
    }

    // Promise 11: points

    @Says(promise = 11, text = "Returns the points of a pupil.")
    static void pointsOfEachPupilApart() {
        Classfederation x = Made.lively();
        Due.is("15 paid", x.points(0), 85);
        Due.is("21 paid", x.points(1), 79);
        Due.is("30 paid", x.points(2), 70);
    }

    @Says(promise = 11, text = "Returns the points left.")
    static void pointsAllAndNoneAndHalf() {
        Classfederation x = Made.pupils(1);
        Due.is("all", x.points(0), 100);
        x.bid(0, 0, 100);
        Due.is("told bids cost nothing", x.points(0), 100);
        x.settle();
        Due.is("none", x.points(0), 0);
        x.move(0, 1);
        Due.is("half back", x.points(0), 50);
        x.giveUp(0, 0);
        Due.is("and half of the rest", x.points(0), 75);
    }

    @Says(promise = 11, text = "Throws `IndexOutOfBoundsException` if there is no such pupil")
    static void pointsOfNoSuchPupil() {
        Due.knowsNumbers("pupil", Made::pupils, 10, (x, pupil) -> x.points(pupil));
    }

    // Schools

    private static Classfederation livelyWithSlot1Sat() {
        Classfederation x = Made.lively();
        x.sit(1);
        return x;
    }

    private static Classfederation livelySettled() {
        Classfederation x = Made.lively();
        x.settle();
        return x;
    }

    private static Classfederation livelyWithOneTakenBack() {
        Classfederation x = Made.lively();
        x.unbid(2, 4);
        return x;
    }

    /** Offer 0, at slot 0, took all points of the only pupil; offer 1 is at slot 0 too. */
    private static Classfederation withAllPointsPaid() {
        Classfederation x = Made.offers(2);
        x.bid(0, 0, 100);
        x.settle();
        return x;
    }

    /** Pupil 1 waited with 50, then bid 80 of 100 points for offer 1, then moved up. */
    private static Classfederation withBidsOf80And50Points() {
        Classfederation x = Made.schoolWithRights(3, 2, 1);
        for (int exam = 0; exam < 3; exam++) {
            x.offer(exam, exam, 0, false);
        }
        x.bid(0, 0, 60);
        x.bid(1, 0, 50);
        x.settle();
        x.bid(1, 1, 80);
        x.giveUp(0, 0);
        return x;
    }

    private static Classfederation withAsManyBidsAsThereMayBe() {
        Classfederation x = Made.full();
        for (int pupil = 0; pupil < 10; pupil++) {
            for (int offer = 0; offer < 12; offer++) {
                x.bid(pupil, offer, 1 + (pupil + offer) % 8);
            }
        }
        return x;
    }

    /** Offer 0 is full with pupil 0; pupil 4 has a seat at its slot, 5 one of its exam. */
    private static Classfederation fullOffer() {
        Classfederation x = Made.schoolWithRights(2, 6, 1, 1);
        x.offer(0, 0, 0, false);
        x.offer(1, 0, 1, false);
        x.offer(0, 1, 1, false);
        x.bid(0, 0, 1);
        x.bid(4, 1, 1);
        x.bid(5, 2, 1);
        x.settle();
        return x;
    }

    /** Pupil 3 waits for the offers 0 and 1, of exam 0, and 2, of exam 1; pupils 0, 1, 2 have a seat each of them. */
    private static Classfederation waitingForThreeOffers() {
        Classfederation x = Made.schoolWithRights(2, 4, 1);
        x.offer(0, 0, 0, false);
        x.offer(0, 1, 0, false);
        x.offer(1, 2, 0, false);
        x.offer(0, 3, 0, false);
        x.bid(0, 0, 50);
        x.bid(1, 1, 50);
        x.bid(2, 2, 50);
        x.bid(3, 0, 10);
        x.bid(3, 1, 10);
        x.bid(3, 2, 10);
        x.settle();
        return x;
    }
}
