import java.util.NoSuchElementException;

/** Promises 1 to 5 and 21: a new object, rooms, exams, pupils, offers and their slots. */
public final class SchoolTest {
    private SchoolTest() { }

    public static void main(String[] args) throws IllegalAccessException {
        Suite.run(SchoolTest.class);
    }

    // Promise 1: a new object

    @Says(promise = 1, text = "Creates a school without rooms, exams and pupils.")
    static void newObjectHasNoRooms() {
        Due.refuses("offer in room 0", () -> Made.school(1, 1), IndexOutOfBoundsException.class,
                x -> x.offer(0, 0, 0, false));
        Due.is("the first room", new Classfederation().room(1), 0);
    }

    @Says(promise = 1, text = "Creates a school without rooms, exams and pupils.")
    static void newObjectHasNoExams() {
        Due.refuses("offer of exam 0", () -> Made.school(0, 1, 1), IndexOutOfBoundsException.class,
                x -> x.offer(0, 0, 0, false));
        Due.refuses("maySit exam 0", () -> Made.school(0, 1, 1), IndexOutOfBoundsException.class, x -> x.maySit(0, 0));
        Due.is("the first exam", new Classfederation().exam(), 0);
    }

    @Says(promise = 1, text = "Creates a school without rooms, exams and pupils.")
    static void newObjectHasNoPupils() {
        Due.refuses("points of pupil 0", Classfederation::new, IndexOutOfBoundsException.class, x -> x.points(0));
        Due.refuses("meanPoints", Classfederation::new, ArithmeticException.class, Classfederation::meanPoints);
        Due.is("the first pupil", new Classfederation().pupil(), 0);
    }

    @Says(promise = 1, text = "Creates a school without rooms, exams and pupils.")
    static void newObjectHasNoOffers() {
        Due.refuses("slotOf offer 0", Classfederation::new, IndexOutOfBoundsException.class, x -> x.slotOf(0));
        Due.refuses("takenShare", Classfederation::new, ArithmeticException.class, Classfederation::takenShare);
        Due.is("the first offer", Made.school(1, 0, 1).offer(0, 0, 0, false), 0);
    }

    @Says(promise = 1, text = "Creates a school without rooms, exams and pupils.")
    static void newObjectHasCountedNothing() {
        Classfederation x = new Classfederation();
        Due.is("bids", x.bids(), 0);
        Due.is("rounds", x.rounds(), 0);
        Due.is("refunds", x.refunds(), 0);
        Due.is("settle", x.settle(), 0);
        Due.isSo("isTrue", x.isTrue());
        for (int slot = 0; slot < 6; slot++) {
            Due.is("no slot was sat: sit", x.sit(slot), 0);
        }
    }

    @Says(promise = 1, text = "Creates a school without rooms, exams and pupils.")
    static void objectsShareNothing() {
        Classfederation full = Made.full();
        full.bid(0, 0, 1);
        full.settle();
        full.sit(0);
        Classfederation x = new Classfederation();
        Due.is("room", x.room(1), 0);
        Due.is("exam", x.exam(), 0);
        Due.is("pupil", x.pupil(), 0);
        Due.is("offer", x.offer(0, 0, 0, false), 0);
        Due.is("holders", x.holders(0), 0);
        Due.is("rounds", x.rounds(), 0);
        Due.isNot("maySit", x.maySit(0, 0));
        Due.is("points", x.points(0), 100);
    }

    // Promise 2: room

    @Says(promise = 2, text = "Adds a room.")
    static void roomCanHaveOffers() {
        Classfederation x = Made.school(1, 0);
        Due.raises("offer before", IndexOutOfBoundsException.class, () -> x.offer(0, 0, 0, false));
        x.room(1);
        Due.is("offer", x.offer(0, 0, 0, false), 0);
        Due.raises("offer in the next room", IndexOutOfBoundsException.class, () -> x.offer(0, 0, 1, false));
    }

    @Says(promise = 2, text = "`seats`: how many seats, 1 to 6")
    static void roomOfOneSeat() {
        Due.is("seats given", seatsGivenIn(1), 1);
    }

    @Says(promise = 2, text = "`seats`: how many seats, 1 to 6")
    static void roomOfSixSeats() {
        Due.is("seats given", seatsGivenIn(6), 6);
    }

    @Says(promise = 2, text = "`seats`: how many seats, 1 to 6")
    static void eachRoomHasItsOwnSeats() {
        Classfederation x = Made.schoolWithRights(1, 10, 1, 6, 3);
        for (int room = 0; room < 3; room++) {
            x.offer(0, room, room, false);
            for (int pupil = 0; pupil < 10; pupil++) {
                x.bid(pupil, room, 1);
            }
            x.settle();
        }
        Due.is("seats of room 0", x.holders(0), 1);
        Due.is("seats of room 1", x.holders(1), 6);
        Due.is("seats of room 2", x.holders(2), 3);
    }

    @Says(promise = 2, text = "Returns its number.")
    static void roomsAreNumberedFrom0() {
        Classfederation x = new Classfederation();
        for (int i = 0; i < 3; i++) {
            Due.raises("a room of 0 seats", IllegalArgumentException.class, () -> x.room(0));
            Due.is("room, refused ones not counted", x.room(6), i);
        }
    }

    @Says(promise = 2, text = "Throws `IllegalArgumentException` if a number is out of range")
    static void roomSeatsJustOutside() {
        Due.refusesEach("room of", Classfederation::new, IllegalArgumentException.class, Due.outside(1, 6),
                (x, seats) -> x.room(seats));
        Due.refusesEach("room of", Made::lively, IllegalArgumentException.class, Due.outside(1, 6),
                (x, seats) -> x.room(seats));
        Due.refuses("room of -1", Made::lively, IllegalArgumentException.class, x -> x.room(-1));
    }

    @Says(promise = 2, text = "Throws `IllegalStateException` if there are 3")
    static void thirdRoomGoesFourthDoesNot() {
        Due.is("the third", Made.rooms(2).room(1), 2);
        Due.refuses("the fourth", () -> Made.rooms(3), IllegalStateException.class, x -> x.room(1));
        Due.refuses("the fourth of 6", Made::full, IllegalStateException.class, x -> x.room(6));
    }

    @Says(promise = 2, text = Says.FIRST)
    static void fourthRoomOutOfRange() {
        Due.refusesEach("a fourth room of", Made::full, IllegalArgumentException.class, Due.outside(1, 6),
                (x, seats) -> x.room(seats));
    }

    // Promise 3: exam

    @Says(promise = 3, text = "Adds an exam.")
    static void examCanBeOffered() {
        Classfederation x = Made.school(0, 1, 1);
        x.exam();
        Due.is("offer", x.offer(0, 0, 0, false), 0);
        Due.isNot("maySit", x.maySit(0, 0));
        Due.is("no mark at first", x.read(1, 0, 0, 'm'), -1);
        Due.raises("maySit the next exam", IndexOutOfBoundsException.class, () -> x.maySit(0, 1));
    }

    @Says(promise = 3, text = "Returns its number.")
    static void examsAreNumberedFrom0() {
        Classfederation x = new Classfederation();
        for (int i = 0; i < 6; i++) {
            Due.is("exam", x.exam(), i);
        }
    }

    @Says(promise = 3, text = "Throws `IllegalStateException` if there are 6")
    static void sixthExamGoesSeventhDoesNot() {
        Due.is("the sixth", Made.exams(5).exam(), 5);
        Due.refuses("the seventh", () -> Made.exams(6), IllegalStateException.class, Classfederation::exam);
        Due.refuses("the seventh", Made::full, IllegalStateException.class, Classfederation::exam);
    }

    // Promise 4: pupil

    @Says(promise = 4, text = "Adds a pupil.")
    static void pupilIsLikeOneThatWasThereAtFirst() {
        Classfederation x = Made.lively();
        Due.is("pupil", x.pupil(), 3);
        Due.is("points", x.points(3), 100);
        Due.isNot("maySit", x.maySit(3, 0));
        Due.is("the right", x.read(0, 3, 1, 'r'), 0);
        Due.is("the mark", x.read(1, 3, 1, 'm'), -1);
        Due.is("the minutes", x.read(2, 3, 1, 'x'), 0);
        Due.raises("a seat", NoSuchElementException.class, () -> x.seat(3, 0, false));
        Due.raises("the next pupil", IndexOutOfBoundsException.class, () -> x.points(4));
    }

    @Says(promise = 4, text = "Returns the number.")
    static void pupilsAreNumberedFrom0() {
        Classfederation x = new Classfederation();
        for (int i = 0; i < 10; i++) {
            Due.is("pupil", x.pupil(), i);
            Due.is("points", x.points(i), 100);
        }
    }

    @Says(promise = 4, text = "Throws `IllegalStateException` if there are 10")
    static void tenthPupilGoesEleventhDoesNot() {
        Due.is("the tenth", Made.pupils(9).pupil(), 9);
        Due.refuses("the eleventh", () -> Made.pupils(10), IllegalStateException.class, Classfederation::pupil);
        Due.refuses("the eleventh", Made::full, IllegalStateException.class, Classfederation::pupil);
    }

    // Promise 5: offer

    @Says(promise = 5, text = "Adds an offer.")
    static void offerIsEmptyAtFirst() {
        Classfederation x = Made.schoolWithRights(2, 1, 1, 2);
        x.offer(1, 3, 1, false);
        Due.is("slotOf", x.slotOf(0), 3);
        Due.is("holders", x.holders(0), 0);
        Due.is("waiting", x.waiting(0), 0);
        x.bid(0, 0, 10);
        x.settle();
        Due.is("at its slot its exam", x.at(0, 3), 1);
        Due.is("one of the seats of its room", x.takenShare(), 0.5);
    }

    @Says(promise = 5, text = "`slot`: the slot, 0 to 5")
    static void offerAtTheFirstAndTheLastSlot() {
        Classfederation x = Made.school(1, 1, 1);
        Due.is("offer at 0", x.offer(0, 0, 0, false), 0);
        Due.is("offer at 5", x.offer(0, 5, 0, false), 1);
        Due.is("slotOf", x.slotOf(0), 0);
        Due.is("slotOf", x.slotOf(1), 5);
    }

    @Says(promise = 5, text = "`isResit`: whether it is a resit")
    static void offerFirstOrAsResit() {
        Classfederation x = Made.exams(1);
        x.bid(0, 0, 10);
        x.settle();
        Made.everywhere(x, 0, 0, 'm', 20);
        x.bid(0, 1, 10);
        x.settle();
        Due.is("the first", x.seat(0, 0, false), 0);
        Due.is("the resit", x.seat(0, 0, true), 1);
    }

    @Says(promise = 5, text = "Returns its number.")
    static void offersAreNumberedFrom0() {
        Classfederation x = Made.school(6, 1, 1, 1, 1);
        for (int i = 0; i < 12; i++) {
            int exam = i / 2;
            Due.raises("a refused one", IllegalArgumentException.class, () -> x.offer(exam, 6, 0, false));
            Due.is("offer, refused ones not counted", x.offer(exam, i % 6, i / 6, i % 2 == 1), i);
        }
    }

    @Says(promise = 5, text = "Throws `IndexOutOfBoundsException` if there is no such exam or room")
    static void offerOfNoSuchExam() {
        Due.knowsNumbers("exam", Made::exams, 6, (x, exam) -> x.offer(exam, 2, 0, false));
    }

    @Says(promise = 5, text = "Throws `IndexOutOfBoundsException` if there is no such exam or room")
    static void offerInNoSuchRoom() {
        Due.knowsNumbers("room", Made::rooms, 3, (x, room) -> x.offer(0, 2, room, false));
    }

    @Says(promise = 5, text = "Throws `IllegalArgumentException` if the slot is out of range")
    static void offerSlotJustOutside() {
        Due.refusesEach("offer at", Made::lively, IllegalArgumentException.class, Due.outside(0, 5),
                (x, slot) -> x.offer(0, slot, 0, false));
    }

    @Says(promise = 5, text = "Throws `UnsupportedOperationException` if the room is taken at this slot, or the slot was sat")
    static void offerWhereTheRoomIsTaken() {
        Due.refuses("the same once more", Made::lively, UnsupportedOperationException.class,
                x -> x.offer(0, 0, 0, false));
        Due.refuses("of another exam", Made::lively, UnsupportedOperationException.class,
                x -> x.offer(1, 0, 0, true));
        Due.is("in another room at this slot", Made.lively().offer(0, 0, 1, false), 5);
        Due.is("in this room at another slot", Made.lively().offer(0, 1, 0, false), 5);
    }

    @Says(promise = 5, text = "Throws `UnsupportedOperationException` if the room is taken at this slot, or the slot was sat")
    static void offerWhereAnotherMovedToOrAway() {
        Due.refuses("where one moved to", SchoolTest::withOneMovedFrom0To4, UnsupportedOperationException.class,
                x -> x.offer(0, 4, 0, false));
        Due.is("where it moved away", withOneMovedFrom0To4().offer(0, 0, 0, false), 5);
    }

    @Says(promise = 5, text = "Throws `UnsupportedOperationException` if the room is taken at this slot, or the slot was sat")
    static void offerWhereTheSlotWasSat() {
        Due.refuses("in a free room", Made::lively, UnsupportedOperationException.class,
                x -> x.offer(0, 5, 1, false));
        Due.refuses("in the room that is taken too", Made::lively, UnsupportedOperationException.class,
                x -> x.offer(0, 5, 0, false));
        Due.is("at the slot before", Made.lively().offer(0, 4, 1, false), 5);
    }

    @Says(promise = 5, text = "Throws `IllegalStateException` if there are 12")
    static void twelfthOfferGoesThirteenthDoesNot() {
        Due.is("the twelfth", Made.offers(11).offer(0, 5, 0, false), 11);
        Due.refuses("the thirteenth", () -> Made.offers(12), IllegalStateException.class,
                x -> x.offer(0, 5, 0, false));
        Due.refuses("the thirteenth", Made::full, IllegalStateException.class, x -> x.offer(5, 5, 2, true));
    }

    @Says(promise = 5, text = Says.FIRST)
    static void offerOfNoSuchExamOrRoomComesFirst() {
        Class<IndexOutOfBoundsException> due = IndexOutOfBoundsException.class;
        Due.refuses("no exam, slot 6", Made::lively, due, x -> x.offer(2, 6, 0, false));
        Due.refuses("no room, slot 6", Made::lively, due, x -> x.offer(0, 6, 2, false));
        Due.refuses("no room, slot -1", Made::lively, due, x -> x.offer(0, -1, -1, false));
        Due.refuses("no exam, the room is taken", Made::lively, due, x -> x.offer(2, 0, 0, false));
        Due.refuses("no exam, the slot was sat", Made::lively, due, x -> x.offer(-1, 5, 1, false));
        Due.refuses("no room, the slot was sat", Made::lively, due, x -> x.offer(0, 5, 2, false));
        Due.refuses("no exam, 12 there", Made::full, due, x -> x.offer(6, 0, 2, false));
        Due.refuses("no room, 12 there", Made::full, due, x -> x.offer(0, 0, 3, false));
    }

    @Says(promise = 5, text = Says.FIRST)
    static void offerOutOfRangeComesBeforeFull() {
        Due.refusesEach("12 there, slot", Made::full, IllegalArgumentException.class, Due.outside(0, 5),
                (x, slot) -> x.offer(0, slot, 2, false));
    }

    @Says(promise = 5, text = Says.FIRST)
    static void offerTakenOrSatComesBeforeFull() {
        Due.refuses("12 there, the room is taken", Made::full, UnsupportedOperationException.class,
                x -> x.offer(0, 0, 0, false));
        Due.refuses("12 there, the slot was sat", SchoolTest::fullWithSlot5Sat, UnsupportedOperationException.class,
                x -> x.offer(0, 5, 2, false));
    }

    // Promise 21: slotOf

    @Says(promise = 21, text = "Returns the slot of an offer.")
    static void slotOfIsWhereItIsNow() {
        Classfederation x = withOneMovedFrom0To4();
        Due.is("a moved one", x.slotOf(0), 4);
        Due.is("another one", x.slotOf(1), 1);
        Due.raises("a move that is refused", UnsupportedOperationException.class, () -> x.move(0, 5));
        Due.is("as before", x.slotOf(0), 4);
        x.sit(4);
        Due.is("a closed one", x.slotOf(0), 4);
    }

    @Says(promise = 21, text = "Returns the slot.")
    static void slotOfTheFirstAndTheLastSlot() {
        Classfederation x = Made.full();
        for (int offer = 0; offer < 12; offer++) {
            Due.is("slotOf", x.slotOf(offer), offer % 6);
        }
    }

    @Says(promise = 21, text = "Throws `IndexOutOfBoundsException` if there is no such offer")
    static void slotOfNoSuchOffer() {
        Due.knowsNumbers("offer", Made::offers, 12, (x, offer) -> x.slotOf(offer));
    }

    // Schools

    /** How many of seven who bid have a seat in a room of so many seats. */
    private static int seatsGivenIn(int seats) {
        Classfederation x = Made.schoolWithRights(1, 7, seats);
        x.offer(0, 0, 0, false);
        for (int pupil = 0; pupil < 7; pupil++) {
            x.bid(pupil, 0, 10);
        }
        return x.settle();
    }

    private static Classfederation withOneMovedFrom0To4() {
        Classfederation x = Made.lively();
        x.move(0, 4);
        return x;
    }

    private static Classfederation fullWithSlot5Sat() {
        Classfederation x = Made.full();
        x.sit(5);
        return x;
    }
}
