import java.util.NoSuchElementException;

/** Promises 12 to 20 and 22: seats, those who wait, giving up, moves and what comes back. */
public final class SeatsTest {
    private SeatsTest() { }

    public static void main(String[] args) {
        promise12();
        promise13();
        promise14And15();
        promise16();
        promise17And18();
        promise19();
        promise19PassedOver();
        promise19WaitsNoMore();
        promise19Queue();
        promise19Refused();
        promise20();
        promise20FreeSeats();
        promise20NewSlot();
        promise20Refused();
        promise22();
        Due.end();
    }

    private static void promise12() {
        Classfederation x = seated();
        Due.is("seat", x.seat(0, 0, false), 0);
        Due.is("seat", x.seat(1, 1, false), 1);
        Due.refuses("no resit", x, NoSuchElementException.class, () -> x.seat(0, 0, true));
        Due.refuses("no seat", x, NoSuchElementException.class, () -> x.seat(0, 1, false));
        Due.refuses("no such pupil", x, IndexOutOfBoundsException.class, () -> x.seat(3, 0, false));
        Due.refuses("no such pupil", x, IndexOutOfBoundsException.class, () -> x.seat(-1, 0, false));
        Due.refuses("no such exam", x, IndexOutOfBoundsException.class, () -> x.seat(0, 2, false));
        Due.refuses("no such exam", x, IndexOutOfBoundsException.class, () -> x.seat(0, -1, false));
        Made.everywhere(x, 0, 1, 'm', 5);
        x.bid(0, 2, 1);
        x.settle();
        Due.is("a resit", x.seat(0, 1, true), 2);
        Due.refuses("no first one", x, NoSuchElementException.class, () -> x.seat(0, 1, false));
        x.giveUp(0, 0);
        Due.refuses("given up", x, NoSuchElementException.class, () -> x.seat(0, 0, false));
    }

    private static void promise13() {
        Classfederation x = seated();
        Due.is("at", x.at(0, 0), 0);
        Due.is("at", x.at(1, 1), 1);
        Due.refuses("none", x, NoSuchElementException.class, () -> x.at(0, 1));
        Due.refuses("slot 6", x, IllegalArgumentException.class, () -> x.at(0, 6));
        Due.refuses("slot -1", x, IllegalArgumentException.class, () -> x.at(0, -1));
        Due.refuses("no such pupil", x, IndexOutOfBoundsException.class, () -> x.at(3, 0));
        Due.refuses("no such pupil, slot 6", x, IndexOutOfBoundsException.class, () -> x.at(-1, 6));
        x.move(1, 5);
        Due.is("at the new slot", x.at(1, 5), 1);
        Due.refuses("at the old slot", x, NoSuchElementException.class, () -> x.at(1, 1));
    }

    private static void promise14And15() {
        Classfederation x = Made.schoolWithRights(1, 10, 6);
        x.offer(0, 0, 0, false);
        Due.is("holders", x.holders(0), 0);
        Due.refuses("no holder", x, NoSuchElementException.class, () -> x.holder(0, 0));
        int[] order = {9, 3, 7, 0, 5, 4};
        for (int i = 0; i < 6; i++) {
            x.bid(order[i], 0, 10);
        }
        x.settle();
        Due.is("holders", x.holders(0), 6);
        int[] rising = {0, 3, 4, 5, 7, 9};
        for (int i = 0; i < 6; i++) {
            Due.is("holder", x.holder(0, i), rising[i]);
        }
        for (int index : new int[] {6, -1, 10, Integer.MIN_VALUE, Integer.MAX_VALUE}) {
            Due.refuses("no such holder", x, NoSuchElementException.class, () -> x.holder(0, index));
        }
        x.giveUp(3, 0);
        Due.is("holders", x.holders(0), 5);
        Due.is("holder", x.holder(0, 1), 4);
        for (int offer : new int[] {1, -1}) {
            Due.refuses("no such offer", x, IndexOutOfBoundsException.class, () -> x.holders(offer));
            Due.refuses("no such offer", x, IndexOutOfBoundsException.class, () -> x.holder(offer, 0));
            Due.refuses("no such offer", x, IndexOutOfBoundsException.class, () -> x.holder(offer, -1));
        }
    }

    private static void promise16() {
        Classfederation x = seated();
        Due.is("paid", x.paid(0, 0), 15);
        Due.is("paid", x.paid(1, 1), 40);
        Due.refuses("no seat", x, NoSuchElementException.class, () -> x.paid(2, 0));
        Due.refuses("no seat", x, NoSuchElementException.class, () -> x.paid(0, 1));
        Due.refuses("no such pupil", x, IndexOutOfBoundsException.class, () -> x.paid(3, 0));
        Due.refuses("no such pupil", x, IndexOutOfBoundsException.class, () -> x.paid(-1, 0));
        Due.refuses("no such offer", x, IndexOutOfBoundsException.class, () -> x.paid(0, 3));
        Due.refuses("no such offer", x, IndexOutOfBoundsException.class, () -> x.paid(0, -1));
        x.move(0, 4);
        Due.is("paid less half, cut", x.paid(0, 0), 8);
        x.move(0, 5);
        Due.is("paid less half again", x.paid(0, 0), 4);
    }

    private static void promise17And18() {
        Classfederation x = seated();
        Due.is("waiting", x.waiting(0), 1);
        Due.is("waiting", x.waiting(1), 0);
        Due.is("waiter", x.waiter(0, 0), 2);
        for (int index : new int[] {1, -1, 10, Integer.MAX_VALUE, Integer.MIN_VALUE}) {
            Due.refuses("no such waiter", x, NoSuchElementException.class, () -> x.waiter(0, index));
        }
        for (int offer : new int[] {3, -1}) {
            Due.refuses("no such offer", x, IndexOutOfBoundsException.class, () -> x.waiting(offer));
            Due.refuses("no such offer", x, IndexOutOfBoundsException.class, () -> x.waiter(offer, 0));
            Due.refuses("no such offer", x, IndexOutOfBoundsException.class, () -> x.waiter(offer, -1));
        }
        x.sit(0);
        Due.is("they wait on where it is closed", x.waiting(0), 1);

        Classfederation y = Made.schoolWithRights(1, 10, 1);
        y.offer(0, 0, 0, false);
        for (int pupil = 9; pupil >= 0; pupil--) {
            y.bid(pupil, 0, 10);
        }
        y.settle();
        Due.is("waiting", y.waiting(0), 9);
        for (int i = 0; i < 9; i++) {
            Due.is("waiter", y.waiter(0, i), 8 - i);
        }
        Due.is("who moves up", y.giveUp(9, 0), 8);
        Due.is("waiting", y.waiting(0), 8);
        Due.is("waiter", y.waiter(0, 0), 7);
        Due.is("waiter", y.waiter(0, 7), 0);
    }

    private static void promise19() {
        Classfederation x = seated();
        Due.is("who moves up", x.giveUp(0, 0), 2);
        Due.is("half of 15 back, cut", x.points(0), 92);
        Due.is("paid by who moved up", x.paid(2, 0), 10);
        Due.is("points of who moved up", x.points(2), 90);
        Due.is("nobody waits", x.waiting(0), 0);
        Due.is("nobody moves up", x.giveUp(2, 0), -1);
        Due.is("half of 10 back", x.points(2), 95);
        Due.is("holders", x.holders(0), 0);
        Due.isSo("isTrue", x.isTrue());
        x.bid(0, 0, 1);
        Due.is("again a seat", x.settle(), 1);
        Due.is("nobody moves up", x.giveUp(0, 0), -1);
        Due.is("half of 1 is nothing", x.points(0), 91);
        Due.isSo("isTrue", x.isTrue());
    }

    /** A row of pupils who wait for one seat, each but the last for another reason not able to have it. */
    private static void promise19PassedOver() {
        Classfederation x = Made.schoolWithRights(3, 8, 1, 6);
        x.offer(0, 0, 0, false);
        x.offer(1, 0, 1, false);
        x.offer(2, 1, 1, false);
        for (int pupil = 0; pupil < 8; pupil++) {
            x.bid(pupil, 0, 60 - pupil);
        }
        x.settle();
        Due.is("waiting", x.waiting(0), 7);
        x.bid(1, 1, 1);
        x.bid(2, 2, 43);
        x.bid(6, 2, 46);
        x.settle();
        x.write(2, 3, 0, 'r', 0);
        x.write(1, 4, 0, 'm', 70);
        Made.everywhere(x, 5, 0, 'r', 0);
        Due.is("another at the slot, points, right apart, mark, no right", x.giveUp(0, 0), 6);
        Due.is("with just the points", x.points(6), 0);
        Due.is("they wait on", x.waiting(0), 6);
        for (int i = 0; i < 5; i++) {
            Due.is("waiter", x.waiter(0, i), i + 1);
        }
        Due.is("waiter", x.waiter(0, 5), 7);
        Made.everywhere(x, 3, 0, 'r', 1);
        Due.is("who could have it now", x.giveUp(6, 0), 3);
        x.giveUp(1, 1);
        Due.is("only one moves up", x.giveUp(3, 0), 1);
        Due.is("waiting", x.waiting(0), 4);

        // One free seat more than is given up: still only one moves up.
        Classfederation y = Made.schoolWithRights(1, 4, 2);
        y.offer(0, 0, 0, false);
        for (int pupil = 0; pupil < 4; pupil++) {
            y.bid(pupil, 0, 10);
        }
        y.settle();
        y.write(0, 2, 0, 'r', 0);
        y.write(0, 3, 0, 'r', 0);
        Due.is("nobody could have it", y.giveUp(0, 0), -1);
        y.write(0, 2, 0, 'r', 1);
        y.write(0, 3, 0, 'r', 1);
        Due.is("nothing happens by that", y.holders(0), 1);
        Due.is("the first", y.giveUp(1, 0), 2);
        Due.is("only one", y.holders(0), 1);
        Due.is("a bid has the seat that is left", y.bid(0, 0, 1) + y.settle(), 2);
        Due.is("though another waits", y.waiting(0), 1);
    }

    private static void promise19WaitsNoMore() {
        Classfederation x = Made.schoolWithRights(1, 2, 1);
        x.offer(0, 0, 0, false);
        x.offer(0, 1, 0, false);
        x.bid(0, 0, 20);
        x.bid(1, 0, 10);
        x.settle();
        x.giveUp(0, 0);
        x.giveUp(1, 0);
        x.bid(0, 0, 5);
        x.settle();
        x.bid(1, 0, 4);
        x.settle();
        Due.is("1 waits for 0", x.waiting(0), 1);
        x.giveUp(0, 0);
        x.bid(0, 1, 5);
        x.settle();
        x.giveUp(1, 0);
        x.bid(1, 1, 3);
        x.settle();
        Due.is("1 waits for 1", x.waiting(1), 1);
        x.giveUp(0, 1);
        x.bid(0, 0, 5);
        x.settle();
        x.giveUp(1, 1);
        x.bid(1, 0, 2);
        x.settle();
        Due.is("1 waits for 0", x.waiting(0), 1);
        x.giveUp(0, 0);
        Due.is("1 moved up", x.seat(1, 0, false), 0);

        Classfederation y = Made.schoolWithRights(1, 3, 1);
        y.offer(0, 0, 0, false);
        y.offer(0, 1, 0, false);
        y.bid(0, 0, 20);
        y.bid(1, 1, 20);
        y.bid(2, 0, 10);
        y.bid(2, 1, 9);
        y.settle();
        Due.is("2 waits for both", y.waiting(0) + y.waiting(1), 2);
        Due.is("2 moves up", y.giveUp(1, 1), 2);
        Due.is("2 waits no more", y.waiting(0), 0);
        Due.is("nobody moves up", y.giveUp(0, 0), -1);
    }

    /** Who leaves the queue from its middle leaves the others' places and points as they are. */
    private static void promise19Queue() {
        Classfederation x = Made.schoolWithRights(1, 5, 1);
        x.offer(0, 0, 0, false);
        x.offer(0, 1, 0, false);
        for (int pupil = 0; pupil < 5; pupil++) {
            x.bid(pupil, 0, 50 - 7 * pupil);
        }
        x.settle();
        x.bid(2, 1, 1);
        x.settle();
        Due.is("waiting", x.waiting(0), 3);
        Due.is("who moves up", x.giveUp(0, 0), 1);
        Due.is("paid", x.paid(1, 0), 43);
        Due.is("who moves up", x.giveUp(1, 0), 3);
        Due.is("paid", x.paid(3, 0), 29);
        Due.is("who moves up", x.giveUp(3, 0), 4);
        Due.is("paid", x.paid(4, 0), 22);
    }

    private static void promise19Refused() {
        Classfederation x = seated();
        Due.refuses("no seat", x, UnsupportedOperationException.class, () -> x.giveUp(2, 0));
        Due.refuses("no such pupil", x, IndexOutOfBoundsException.class, () -> x.giveUp(3, 0));
        Due.refuses("no such pupil", x, IndexOutOfBoundsException.class, () -> x.giveUp(-1, 0));
        Due.refuses("no such offer", x, IndexOutOfBoundsException.class, () -> x.giveUp(0, 3));
        Due.refuses("no such offer", x, IndexOutOfBoundsException.class, () -> x.giveUp(0, -1));
        x.sit(0);
        Due.refuses("closed", x, UnsupportedOperationException.class, () -> x.giveUp(0, 0));
    }

    private static void promise20() {
        Classfederation x = Made.schoolWithRights(2, 5, 3, 6);
        x.offer(0, 0, 0, false);
        x.offer(1, 1, 1, false);
        x.bid(0, 0, 31);
        x.bid(1, 0, 30);
        x.bid(2, 0, 29);
        x.bid(3, 0, 28);
        x.bid(4, 0, 27);
        x.bid(1, 1, 10);
        x.bid(3, 1, 10);
        x.settle();
        Due.is("who has another seat loses", x.move(0, 1), 1);
        Due.is("slotOf", x.slotOf(0), 1);
        Due.is("all back", x.points(1), 90);
        Due.refuses("no seat", x, NoSuchElementException.class, () -> x.paid(1, 0));
        Due.is("half back, cut", x.points(0), 84);
        Due.is("paid", x.paid(0, 0), 16);
        Due.is("half back, cut", x.points(2), 85);
        Due.is("paid", x.paid(2, 0), 15);
        Due.is("3 has another seat there and is passed over", x.waiter(0, 0), 3);
        Due.is("4 moves up", x.paid(4, 0), 27);
        Due.is("points", x.points(4), 73);
        Due.is("waiting", x.waiting(0), 1);
        Due.is("refunds", x.refunds(), 59);
        Due.is("the old slot is free", x.move(1, 0), 0);
        Due.isSo("isTrue", x.isTrue());
        Due.is("nobody clashes", x.move(0, 2), 0);
        Due.is("nobody had a seat more", x.holders(0), 3);
    }

    private static void promise20FreeSeats() {
        Classfederation x = Made.schoolWithRights(1, 6, 3);
        x.offer(0, 0, 0, false);
        for (int pupil = 0; pupil < 6; pupil++) {
            x.bid(pupil, 0, 10);
        }
        x.settle();
        Made.everywhere(x, 3, 0, 'r', 0);
        Made.everywhere(x, 4, 0, 'r', 0);
        Made.everywhere(x, 5, 0, 'r', 0);
        x.giveUp(0, 0);
        x.giveUp(1, 0);
        Due.is("two seats are free", x.holders(0), 1);
        Made.everywhere(x, 4, 0, 'r', 1);
        Made.everywhere(x, 5, 0, 'r', 1);
        Due.is("nobody lost", x.move(0, 3), 0);
        Due.is("two moved up", x.holders(0), 3);
        Due.is("the second of them", x.paid(5, 0), 10);
        Due.is("who could not waits on", x.waiter(0, 0), 3);
    }

    private static void promise20NewSlot() {
        // Pupil 1 has another seat at the old slot, so only the move lets the pupil move up.
        Classfederation x = Made.schoolWithRights(2, 2, 1, 1);
        x.offer(0, 0, 0, false);
        x.offer(1, 1, 1, false);
        x.bid(0, 0, 20);
        x.bid(0, 1, 20);
        x.bid(1, 0, 10);
        x.settle();
        Due.is("0 loses", x.move(0, 1), 1);
        Due.is("1 moves up", x.at(1, 1), 0);
        Due.is("points", x.points(0), 80);
        Due.isSo("isTrue", x.isTrue());

        Classfederation y = Made.schoolWithRights(2, 2, 1, 6);
        y.offer(0, 0, 0, false);
        y.offer(1, 0, 1, false);
        y.bid(0, 0, 20);
        y.bid(1, 0, 10);
        y.settle();
        y.bid(1, 1, 10);
        y.settle();
        Due.is("1 is at the slot", y.giveUp(0, 0), -1);
        Due.is("nobody lost", y.move(0, 1), 0);
        Due.is("1 moved up", y.seat(1, 0, false), 0);
    }

    private static void promise20Refused() {
        Classfederation x = Made.schoolWithRights(1, 1, 1, 1);
        x.offer(0, 0, 0, false);
        x.offer(0, 1, 0, false);
        x.offer(0, 2, 1, false);
        Due.refuses("no such offer", x, IndexOutOfBoundsException.class, () -> x.move(3, 5));
        Due.refuses("no such offer, slot 6", x, IndexOutOfBoundsException.class, () -> x.move(-1, 6));
        Due.refuses("slot 6", x, IllegalArgumentException.class, () -> x.move(0, 6));
        Due.refuses("slot -1", x, IllegalArgumentException.class, () -> x.move(0, -1));
        Due.refuses("the same slot", x, UnsupportedOperationException.class, () -> x.move(0, 0));
        Due.refuses("taken", x, UnsupportedOperationException.class, () -> x.move(0, 1));
        Due.is("another room is taken there", x.move(0, 2), 0);
        x.sit(5);
        Due.refuses("the slot was sat", x, UnsupportedOperationException.class, () -> x.move(0, 5));
        x.sit(2);
        Due.refuses("closed", x, UnsupportedOperationException.class, () -> x.move(0, 3));
        Due.refuses("closed, slot 6", x, IllegalArgumentException.class, () -> x.move(0, 6));
    }

    private static void promise22() {
        Classfederation x = Made.schoolWithRights(2, 2, 2, 2);
        x.offer(0, 0, 0, false);
        x.offer(1, 1, 1, false);
        x.bid(0, 0, 33);
        x.bid(1, 0, 40);
        x.bid(0, 1, 7);
        x.settle();
        Due.is("nothing back yet", x.refunds(), 0);
        x.giveUp(1, 0);
        Due.is("half of what was given up", x.refunds(), 20);
        x.move(0, 3);
        Due.is("and half for a move", x.refunds(), 36);
        x.move(0, 1);
        Due.is("and all that is left for a seat lost", x.refunds(), 53);
        Made.everywhere(x, 0, 1, 'r', 0);
        x.sit(1);
        Due.is("and all for who is kept out", x.refunds(), 60);
        Due.is("points", x.points(0), 100);
    }

    /** Pupil 0 has a seat of exam 0 for 15, 1 one of exam 1 for 40, 2 waits for exam 0 with 10; offer 2 is a resit. */
    private static Classfederation seated() {
        Classfederation x = Made.schoolWithRights(2, 3, 1);
        x.offer(0, 0, 0, false);
        x.offer(1, 1, 0, false);
        x.offer(1, 2, 0, true);
        x.bid(0, 0, 15);
        x.bid(1, 1, 40);
        x.bid(2, 0, 10);
        x.settle();
        return x;
    }
}
