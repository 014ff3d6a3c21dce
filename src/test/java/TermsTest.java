import java.util.ArrayList;
import java.util.List;
import java.util.NoSuchElementException;
import java.util.function.Consumer;

/** The rules that all promises share, as far as the tests of single promises do not hold them. */
public final class TermsTest {
    private static final int CALLS = 512;

    private TermsTest() { }

    public static void main(String[] args) throws IllegalAccessException {
        Suite.run(TermsTest.class);
    }

    // What it is

    @Says(text = "An object is used for at most 512 calls after it has been made")
    static void the512thCallIsAnsweredAfterOnesThatChangeThings() {
        Classfederation x = new Classfederation();
        x.room(1);
        x.exam();
        x.pupil();
        x.offer(0, 0, 0, false);
        for (int calls = 4; calls < CALLS - 2; calls += 2) {
            Due.is("bid", x.bid(0, 0, 100), 100);
            Due.is("unbid", x.unbid(0, 0), 100);
        }
        Due.is("the 511th, bid", x.bid(0, 0, 99), 99);
        Due.is("the 512th, unbid", x.unbid(0, 0), 99);
    }

    @Says(text = "An object is used for at most 512 calls after it has been made")
    static void the512thCallIsAnsweredAfterRefusedOnes() {
        Classfederation x = new Classfederation();
        for (int calls = 0; calls < CALLS - 1; calls++) {
            Due.raises("room", IllegalArgumentException.class, () -> x.room(0));
        }
        Due.is("the 512th, room", x.room(1), 0);
    }

    // Offers

    @Says(text = "There are at most 3 rooms with seats, at most 6 exams, at most 10 pupils, and at most 12 offers, each numbered from 0.")
    static void asManyOfAllAtOnceAndNotOneMore() {
        Due.refuses("a room more", Made::full, IllegalStateException.class, x -> x.room(1));
        Due.refuses("an exam more", Made::full, IllegalStateException.class, Classfederation::exam);
        Due.refuses("a pupil more", Made::full, IllegalStateException.class, Classfederation::pupil);
        Due.refuses("an offer more", Made::full, IllegalStateException.class, x -> x.offer(0, 0, 2, false));
        Classfederation x = Made.full();
        x.bid(9, 11, 100);
        x.settle();
        Due.is("the last pupil has a seat of the last offer, of the last exam", x.seat(9, 5, false), 11);
    }

    @Says(text = "An offer is of an exam, at a slot, 0 to 5, in a room, first or as a resit")
    static void offerOfEachExamAtEachSlotInEachRoom() {
        for (int i = 0; i < 216; i++) {
            int exam = i % 6;
            int slot = i / 6 % 6;
            boolean isResit = i / 108 == 1;
            Classfederation x = Made.schoolWithRights(6, 1, 1, 1, 1);
            Made.everywhere(x, 0, exam, 'm', isResit ? 0 : -1);
            Due.is("offer", x.offer(exam, slot, i / 36 % 3, isResit), 0);
            x.bid(0, 0, 1);
            x.settle();
            Due.is("slotOf", x.slotOf(0), slot);
            Due.is("at", x.at(0, slot), exam);
            Due.is("seat", x.seat(0, exam, isResit), 0);
        }
    }

    @Says(text = "no two offers are at one slot in one room.")
    static void oneOfferAtASlotInEachOfThreeRooms() {
        Classfederation x = Made.school(1, 1, 1, 1, 1);
        for (int room = 0; room < 3; room++) {
            int r = room;
            Due.is("offer", x.offer(0, 0, r, false), 2 * r);
            Due.raises("a second one", UnsupportedOperationException.class, () -> x.offer(0, 0, r, true));
            Due.is("at another slot", x.offer(0, 1, r, true), 2 * r + 1);
            Due.raises("moved there", UnsupportedOperationException.class, () -> x.move(2 * r + 1, 0));
        }
        Due.isSo("isTrue", x.isTrue());
    }

    @Says(text = "It has as many seats as the room.")
    static void offerHasAsManySeatsAsTheRoom() {
        for (int seats = 1; seats <= 6; seats++) {
            Classfederation x = Made.schoolWithRights(1, 7, 1, seats, 6);
            x.offer(0, 0, 1, false);
            for (int pupil = 0; pupil < 7; pupil++) {
                x.bid(pupil, 0, 10);
            }
            Due.is("seats given", x.settle(), seats);
            Due.is("all are taken", x.takenShare(), 1);
            x.move(0, 5);
            Due.is("and after a move", x.holders(0), seats);
        }
    }

    // Who may sit

    @Says(text = "A pupil can have a seat of a first offer if the pupil may sit, and the mark is -1 by its owner")
    static void firstWithEachMarkByItsOwnerOrElsewhere() {
        for (int mark : new int[] {-1, 0, 49, 50, 100}) {
            for (int store = 0; store < 3; store++) {
                Classfederation x = Made.pupils(1);
                x.write(store, 0, 0, 'm', mark);
                x.bid(0, 0, 10);
                Due.is("mark " + mark + " in store " + store, x.settle(), store != 1 || mark == -1 ? 1 : 0);
            }
        }
    }

    @Says(text = "A pupil can have a seat of a first offer if the pupil may sit, and the mark is -1 by its owner")
    static void firstWithAMarkByAnotherOwner() {
        Classfederation x = Made.pupils(2);
        x.setOwner('m', 2);
        x.write(1, 0, 0, 'm', 30);
        x.write(2, 1, 0, 'm', 30);
        x.bid(0, 0, 1);
        x.bid(1, 0, 100);
        x.settle();
        Due.same("a mark by the old owner counts no more", Made.holders(x, 0), "0:1");
    }

    @Says(text = "A pupil can have a seat of a first offer if the pupil may sit, and the mark is -1 by its owner")
    static void firstWithEachRightInEachStore() {
        for (int bits = 0; bits < 8; bits++) {
            Classfederation x = Made.pupils(1);
            for (int store = 0; store < 3; store++) {
                x.write(store, 0, 0, 'r', bits >> store & 1);
            }
            x.bid(0, 0, 10);
            Due.is("rights " + bits, x.settle(), bits == 7 ? 1 : 0);
        }
    }

    @Says(text = "of a resit, if the pupil may sit, and it is open.")
    static void resitWithEachMark() {
        for (int mark = -1; mark <= 100; mark++) {
            Classfederation x = Made.exams(1);
            Made.everywhere(x, 0, 0, 'm', mark);
            x.bid(0, 1, 10);
            Due.is("mark " + mark, x.settle(), mark >= 0 && mark <= 49 ? 1 : 0);
        }
    }

    @Says(text = "of a resit, if the pupil may sit, and it is open.")
    static void resitWhereAStoreDisagrees() {
        for (int store = 0; store < 3; store++) {
            for (char field : new char[] {'r', 'm'}) {
                Classfederation x = Made.exams(1);
                Made.everywhere(x, 0, 0, 'm', 20);
                x.write(store, 0, 0, field, 0);
                x.bid(0, 1, 10);
                Due.is(field + " in store " + store, x.settle(), 0);
                Due.is("nor waits", x.waiting(1), 0);
            }
        }
    }

    // Exceptions

    @Says(text = "A method that throws an exception changes nothing.")
    static void eachMethodRefusedForEachReasonInARowChangesNothing() {
        List<Consumer<Classfederation>> all = new ArrayList<>();
        addRefusedOfTheSchool(all);
        addRefusedOfRoundsAndSeats(all);
        addRefusedOfRecords(all);
        Due.same("the school behind " + all.size() + " refused calls", Looks.of(() -> {
            Classfederation x = Made.lively();
            for (Consumer<Classfederation> call : all) {
                call.accept(x);
            }
            return x;
        }), Looks.of(Made::lively));
    }

    private static void addRefusedOfTheSchool(List<Consumer<Classfederation>> all) {
        all.add(refused(IllegalArgumentException.class, x -> x.room(0)));
        all.add(refused(IndexOutOfBoundsException.class, x -> x.offer(2, 4, 0, false)));
        all.add(refused(IllegalArgumentException.class, x -> x.offer(0, 6, 0, false)));
        all.add(refused(UnsupportedOperationException.class, x -> x.offer(0, 0, 0, false)));
        all.add(refused(UnsupportedOperationException.class, x -> x.offer(0, 5, 1, false)));
        all.add(refused(IndexOutOfBoundsException.class, x -> x.slotOf(5)));
        all.add(refused(IllegalArgumentException.class, x -> x.sit(6)));
        all.add(refused(UnsupportedOperationException.class, x -> x.sit(5)));
        all.add(refused(IndexOutOfBoundsException.class, x -> x.hasSat(3, 0, false)));
    }

    private static void addRefusedOfRoundsAndSeats(List<Consumer<Classfederation>> all) {
        all.add(refused(IndexOutOfBoundsException.class, x -> x.bid(3, 1, 1)));
        all.add(refused(IllegalArgumentException.class, x -> x.bid(0, 1, 101)));
        all.add(refused(UnsupportedOperationException.class, x -> x.bid(0, 3, 1)));
        all.add(refused(UnsupportedOperationException.class, x -> x.bid(1, 4, 80)));
        all.add(refused(IndexOutOfBoundsException.class, x -> x.unbid(0, 5)));
        all.add(refused(NoSuchElementException.class, x -> x.unbid(0, 0)));
        all.add(refused(IndexOutOfBoundsException.class, x -> x.points(3)));
        all.add(refused(IndexOutOfBoundsException.class, x -> x.seat(0, 2, false)));
        all.add(refused(NoSuchElementException.class, x -> x.seat(0, 1, false)));
        all.add(refused(IndexOutOfBoundsException.class, x -> x.at(3, 0)));
        all.add(refused(IllegalArgumentException.class, x -> x.at(0, 6)));
        all.add(refused(NoSuchElementException.class, x -> x.at(0, 4)));
        all.add(refused(IndexOutOfBoundsException.class, x -> x.holders(5)));
        all.add(refused(IndexOutOfBoundsException.class, x -> x.holder(5, 0)));
        all.add(refused(NoSuchElementException.class, x -> x.holder(0, 1)));
        all.add(refused(IndexOutOfBoundsException.class, x -> x.paid(0, 5)));
        all.add(refused(NoSuchElementException.class, x -> x.paid(0, 1)));
        all.add(refused(IndexOutOfBoundsException.class, x -> x.waiting(5)));
        all.add(refused(IndexOutOfBoundsException.class, x -> x.waiter(5, 0)));
        all.add(refused(NoSuchElementException.class, x -> x.waiter(0, 1)));
        all.add(refused(IndexOutOfBoundsException.class, x -> x.giveUp(0, 5)));
        all.add(refused(UnsupportedOperationException.class, x -> x.giveUp(2, 3)));
        all.add(refused(UnsupportedOperationException.class, x -> x.giveUp(1, 0)));
        all.add(refused(IndexOutOfBoundsException.class, x -> x.move(5, 4)));
        all.add(refused(IllegalArgumentException.class, x -> x.move(0, 6)));
        all.add(refused(UnsupportedOperationException.class, x -> x.move(3, 4)));
        all.add(refused(UnsupportedOperationException.class, x -> x.move(0, 0)));
        all.add(refused(UnsupportedOperationException.class, x -> x.move(1, 5)));
        all.add(refused(UnsupportedOperationException.class, x -> x.move(0, 3)));
    }

    private static void addRefusedOfRecords(List<Consumer<Classfederation>> all) {
        all.add(refused(IndexOutOfBoundsException.class, x -> x.write(3, 0, 0, 'r', 0)));
        all.add(refused(IllegalArgumentException.class, x -> x.write(0, 0, 0, 'r', 2)));
        all.add(refused(IllegalArgumentException.class, x -> x.write(0, 0, 0, 'q', 0)));
        all.add(refused(IndexOutOfBoundsException.class, x -> x.read(0, 3, 0, 'r')));
        all.add(refused(IllegalArgumentException.class, x -> x.read(0, 0, 0, 'q')));
        all.add(refused(IndexOutOfBoundsException.class, x -> x.sync(1, 3)));
        all.add(refused(IllegalArgumentException.class, x -> x.sync(1, 1)));
        all.add(refused(IllegalArgumentException.class, x -> x.owner('q')));
        all.add(refused(IllegalArgumentException.class, x -> x.setOwner('q', 0)));
        all.add(refused(IndexOutOfBoundsException.class, x -> x.setOwner('r', 3)));
        all.add(refused(UnsupportedOperationException.class, x -> x.setOwner('m', 0)));
        all.add(refused(IllegalArgumentException.class, x -> x.apart('q')));
        all.add(refused(IndexOutOfBoundsException.class, x -> x.maySit(0, 2)));
        all.add(refused(IndexOutOfBoundsException.class, x -> x.isOpen(3, 0)));
        all.add(refused(IndexOutOfBoundsException.class, x -> x.more(3, 0)));
        all.add(refused(IllegalArgumentException.class, x -> x.more(0, 6)));
        all.add(refused(NoSuchElementException.class, x -> x.more(0, 4)));
    }

    private static Consumer<Classfederation> refused(Class<? extends RuntimeException> kind,
            Consumer<Classfederation> call) {
        return x -> Due.raises("a refused call", kind, () -> call.accept(x));
    }
}
