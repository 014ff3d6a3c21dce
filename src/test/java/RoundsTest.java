import java.util.NoSuchElementException;

/** Promises 6 to 11: bids, rounds and points. */
public final class RoundsTest {
    private RoundsTest() { }

    public static void main(String[] args) {
        promise6();
        promise6Refused();
        promise6ClosedAndDropped();
        promise7();
        promise8();
        promise9Order();
        promise9Told();
        promise9Clashes();
        promise9Rights();
        promise9Marks();
        promise9Resits();
        promise9Waiting();
        promise9WaitsNoMore();
        promise9Closed();
        promise9Points();
        promise10();
        promise11();
        Due.end();
    }

    private static void promise6() {
        Classfederation x = Made.schoolWithRights(2, 2, 1, 1);
        x.offer(0, 0, 0, false);
        x.offer(1, 1, 0, false);
        Due.is("the first bid", x.bid(0, 0, 30), 30);
        Due.is("a second bid", x.bid(0, 1, 70), 100);
        Due.is("in place of the first", x.bid(0, 0, 10), 80);
        Due.is("another pupil's", x.bid(1, 0, 100), 100);
        Due.is("up to the points", x.bid(0, 0, 30), 100);
        Due.refuses("more than the points", x, UnsupportedOperationException.class, () -> x.bid(0, 0, 31));
        Due.is("bids", x.bids(), 3);
        Due.is("the bid that stands", x.unbid(0, 0), 30);
    }

    private static void promise6Refused() {
        Classfederation x = Made.schoolWithRights(1, 1, 1);
        x.offer(0, 0, 0, false);
        x.offer(0, 1, 0, false);
        for (int number : new int[] {-1, 1, Integer.MIN_VALUE, Integer.MAX_VALUE}) {
            Due.refuses("no such pupil", x, IndexOutOfBoundsException.class, () -> x.bid(number, 0, 1));
            Due.refuses("no such pupil, bad points", x, IndexOutOfBoundsException.class, () -> x.bid(number, 0, 0));
        }
        for (int number : new int[] {-1, 2, 12, Integer.MIN_VALUE}) {
            Due.refuses("no such offer", x, IndexOutOfBoundsException.class, () -> x.bid(0, number, 1));
            Due.refuses("no such offer, bad points", x, IndexOutOfBoundsException.class, () -> x.bid(0, number, 101));
        }
        for (int points : new int[] {0, 101, -1, Integer.MIN_VALUE, Integer.MAX_VALUE}) {
            Due.refuses("points " + points, x, IllegalArgumentException.class, () -> x.bid(0, 0, points));
        }
        x.bid(0, 0, 60);
        x.settle();
        Due.refuses("more than are left", x, UnsupportedOperationException.class, () -> x.bid(0, 1, 41));
        Due.is("as many as are left", x.bid(0, 1, 40), 40);
        Due.is("where the pupil has a seat", x.bid(0, 1, 1) + x.bid(0, 0, 39), 41);
    }

    private static void promise6ClosedAndDropped() {
        Classfederation x = Made.schoolWithRights(3, 2, 1, 1);
        x.offer(0, 0, 0, false);
        x.offer(1, 1, 0, false);
        x.offer(2, 2, 0, false);
        x.bid(0, 1, 40);
        x.sit(1);
        Due.refuses("closed", x, UnsupportedOperationException.class, () -> x.bid(0, 1, 5));
        Due.refuses("closed, bad points", x, IllegalArgumentException.class, () -> x.bid(0, 1, 0));
        Due.is("with the one for the closed offer", x.bid(0, 0, 5), 45);
        x.unbid(0, 1);
        x.unbid(0, 0);

        // Pupil 1 waits with 50, then bids 80 of 100, then moves up: bids are more than the points then.
        x.bid(0, 0, 60);
        x.bid(1, 0, 50);
        x.settle();
        x.bid(1, 2, 80);
        Due.is("who moves up", x.giveUp(0, 0), 1);
        Due.is("points of who moved up", x.points(1), 50);
        Due.refuses("still more than the points", x, UnsupportedOperationException.class, () -> x.bid(1, 2, 51));
        Due.is("settled without the points", x.settle(), 0);
        Due.is("nobody waits", x.waiting(2), 0);
        Due.is("as many as are left", x.bid(1, 2, 50), 50);
    }

    private static void promise7() {
        Classfederation x = Made.schoolWithRights(1, 2, 1);
        x.offer(0, 0, 0, false);
        x.offer(0, 1, 0, false);
        x.bid(0, 0, 30);
        x.bid(0, 1, 20);
        x.bid(1, 0, 25);
        Due.is("unbid", x.unbid(0, 0), 30);
        Due.is("bids", x.bids(), 2);
        Due.refuses("unbid again", x, NoSuchElementException.class, () -> x.unbid(0, 0));
        Due.refuses("unbid none", x, NoSuchElementException.class, () -> x.unbid(1, 1));
        Due.refuses("no such pupil", x, IndexOutOfBoundsException.class, () -> x.unbid(2, 0));
        Due.refuses("no such pupil", x, IndexOutOfBoundsException.class, () -> x.unbid(-1, 0));
        Due.refuses("no such offer", x, IndexOutOfBoundsException.class, () -> x.unbid(0, 2));
        Due.refuses("no such offer", x, IndexOutOfBoundsException.class, () -> x.unbid(0, -1));
        Due.is("the sum without it", x.bid(0, 0, 80), 100);
        x.sit(1);
        Due.is("unbid for a closed offer", x.unbid(0, 1), 20);
        x.settle();
        Due.refuses("unbid after the round", x, NoSuchElementException.class, () -> x.unbid(1, 0));
    }

    private static void promise8() {
        Classfederation x = Made.schoolWithRights(6, 10, 1, 1);
        for (int i = 0; i < 12; i++) {
            x.offer(i % 6, i % 6, i / 6, false);
        }
        int told = 0;
        for (int pupil = 0; pupil < 10; pupil++) {
            for (int offer = 0; offer < 12; offer++) {
                x.bid(pupil, offer, 8);
                told++;
                Due.is("bids", x.bids(), told);
            }
        }
        Due.is("in place of another", x.bid(9, 11, 1), 89);
        Due.is("bids", x.bids(), 120);
        x.settle();
        Due.is("bids after the round", x.bids(), 0);
    }

    private static void promise9Order() {
        Classfederation x = Made.schoolWithRights(1, 6, 2);
        x.offer(0, 0, 0, false);
        x.bid(0, 0, 10);
        x.bid(1, 0, 30);
        x.bid(2, 0, 20);
        x.bid(5, 0, 30);
        x.bid(3, 0, 20);
        x.bid(4, 0, 40);
        Due.is("seats given", x.settle(), 2);
        Due.is("the highest", x.paid(4, 0), 40);
        Due.is("the earlier of like ones", x.paid(1, 0), 30);
        Due.same("who waits", waiters(x, 0), "5 2 3 0 ");
        Due.is("points of a waiter", x.points(5), 100);
        Due.is("points of a holder", x.points(4), 60);
    }

    private static void promise9Told() {
        Classfederation x = Made.schoolWithRights(1, 3, 1);
        x.offer(0, 0, 0, false);
        x.bid(0, 0, 20);
        x.bid(1, 0, 20);
        x.bid(2, 0, 20);
        x.bid(0, 0, 20);
        Due.refuses("a refused bid", x, IllegalArgumentException.class, () -> x.bid(1, 0, 101));
        x.settle();
        Due.is("told later now", x.seat(1, 0, false), 0);
        Due.same("who waits", waiters(x, 0), "2 0 ");

        Classfederation y = Made.schoolWithRights(1, 2, 1);
        y.offer(0, 0, 0, false);
        y.bid(0, 0, 20);
        y.bid(1, 0, 20);
        y.unbid(0, 0);
        y.bid(0, 0, 20);
        y.settle();
        Due.is("told anew", y.holder(0, 0), 1);
    }

    private static void promise9Clashes() {
        Classfederation x = Made.schoolWithRights(2, 1, 6, 6);
        x.offer(0, 0, 0, false);
        x.offer(1, 0, 1, false);
        x.offer(0, 1, 0, false);
        x.offer(1, 1, 1, false);
        x.bid(0, 0, 10);
        x.bid(0, 1, 9);
        x.bid(0, 2, 8);
        x.bid(0, 3, 7);
        Due.is("seats given", x.settle(), 2);
        Due.is("the first", x.seat(0, 0, false), 0);
        Due.is("not at the same slot", x.seat(0, 1, false), 3);
        Due.is("not of the same exam", x.holders(2), 0);
        Due.is("paid", x.points(0), 83);
        x.bid(0, 2, 8);
        Due.is("not of the same exam in a later round", x.settle(), 0);
        Due.is("nobody waits", x.waiting(2), 0);
    }

    private static void promise9Rights() {
        Classfederation x = Made.school(1, 3, 6);
        x.offer(0, 0, 0, false);
        x.write(0, 0, 0, 'r', 1);
        x.write(1, 0, 0, 'r', 1);
        Made.everywhere(x, 1, 0, 'r', 1);
        x.bid(0, 0, 10);
        x.bid(1, 0, 10);
        x.bid(2, 0, 10);
        Due.is("only who may sit", x.settle(), 1);
        Due.is("only who may sit", x.holder(0, 0), 1);
        Due.is("others do not wait", x.waiting(0), 0);
        Due.is("others keep their points", x.points(0) + x.points(2), 200);
    }

    private static void promise9Marks() {
        Classfederation x = Made.schoolWithRights(1, 4, 6);
        x.offer(0, 0, 0, false);
        x.write(1, 0, 0, 'm', 30);
        x.write(0, 1, 0, 'm', 30);
        x.write(2, 1, 0, 'm', 30);
        x.write(1, 2, 0, 'm', 0);
        for (int pupil = 0; pupil < 4; pupil++) {
            x.bid(pupil, 0, 10);
        }
        Due.is("only without a mark by its owner", x.settle(), 2);
        Due.is("a mark elsewhere", x.holder(0, 0), 1);
        Due.is("none", x.holder(0, 1), 3);
        x.sync(1, 0);
        x.sync(1, 2);
        Due.is("owner before", x.setOwner('m', 2), 1);
        x.write(2, 0, 0, 'm', -1);
        x.bid(0, 0, 10);
        Due.is("none by the new owner", x.settle(), 1);
    }

    private static void promise9Resits() {
        Classfederation x = Made.schoolWithRights(1, 7, 6);
        x.offer(0, 0, 0, true);
        int[] marks = {-1, 0, 49, 50, 100};
        for (int pupil = 0; pupil < 5; pupil++) {
            Made.everywhere(x, pupil, 0, 'm', marks[pupil]);
        }
        Made.everywhere(x, 5, 0, 'm', 20);
        x.write(2, 5, 0, 'm', 21);
        Made.everywhere(x, 6, 0, 'm', 20);
        x.write(2, 6, 0, 'r', 0);
        for (int pupil = 0; pupil < 7; pupil++) {
            x.bid(pupil, 0, 10);
        }
        Due.is("only where a resit is open", x.settle(), 2);
        Due.is("mark 0", x.holder(0, 0), 1);
        Due.is("mark 49", x.holder(0, 1), 2);

        Classfederation y = Made.schoolWithRights(1, 1, 1);
        y.offer(0, 0, 0, false);
        y.offer(0, 1, 0, true);
        y.bid(0, 0, 10);
        y.settle();
        Made.everywhere(y, 0, 0, 'm', 30);
        y.bid(0, 1, 10);
        Due.is("first and resit apart", y.settle(), 1);
        Due.is("first", y.seat(0, 0, false), 0);
        Due.is("resit", y.seat(0, 0, true), 1);
    }

    private static void promise9Waiting() {
        Classfederation x = Made.schoolWithRights(2, 4, 1, 1);
        x.offer(0, 0, 0, false);
        x.offer(1, 0, 1, false);
        x.bid(0, 0, 50);
        x.bid(1, 0, 40);
        x.bid(2, 1, 45);
        x.bid(2, 0, 30);
        x.settle();
        Due.same("only for want of a seat", waiters(x, 0), "1 ");
        x.bid(3, 0, 90);
        x.bid(1, 0, 95);
        Due.is("no seat left", x.settle(), 0);
        Due.same("behind, and once", waiters(x, 0), "1 3 ");
        Due.is("who moves up", x.giveUp(0, 0), 1);
        Due.is("with as many points as were bid first", x.paid(1, 0), 40);
    }

    private static void promise9WaitsNoMore() {
        Classfederation x = Made.schoolWithRights(2, 4, 1);
        x.offer(0, 0, 0, false);
        x.offer(0, 1, 0, false);
        x.offer(0, 2, 0, false);
        x.offer(1, 3, 0, false);
        x.offer(0, 4, 0, true);
        x.bid(0, 0, 50);
        x.bid(0, 3, 50);
        x.bid(1, 0, 40);
        x.bid(1, 3, 20);
        x.bid(1, 1, 10);
        x.bid(2, 0, 30);
        x.bid(2, 1, 20);
        x.bid(3, 0, 10);
        Due.is("seats given", x.settle(), 3);
        Due.same("1 has no seat of exam 0 and waits, 2 waits no more", waiters(x, 0), "1 3 ");
        Due.same("1 waits for 1", waiters(x, 1), "1 ");
        Due.same("1 waits for 3", waiters(x, 3), "1 ");
        x.bid(1, 2, 5);
        Due.is("seats given", x.settle(), 1);
        Due.same("waits no more for the same exam", waiters(x, 0) + "/" + waiters(x, 1), "3 /");
        Due.same("waits for another exam", waiters(x, 3), "1 ");

        // Who has a seat of the resit waits on for the first, and the other way round.
        Classfederation y = Made.schoolWithRights(1, 2, 1, 1);
        y.offer(0, 0, 0, false);
        y.offer(0, 1, 0, true);
        y.bid(0, 0, 2);
        y.bid(1, 0, 1);
        y.settle();
        Made.everywhere(y, 1, 0, 'm', 10);
        y.bid(1, 1, 1);
        Due.is("a resit", y.settle(), 1);
        Due.same("waits on for the first", waiters(y, 0), "1 ");
    }

    private static void promise9Closed() {
        Classfederation x = Made.schoolWithRights(1, 2, 1);
        x.offer(0, 0, 0, false);
        x.offer(0, 1, 0, false);
        x.bid(0, 0, 10);
        x.bid(1, 0, 9);
        x.bid(1, 1, 8);
        x.sit(0);
        Due.is("bids told ahead stand", x.bids(), 3);
        Due.is("and are gone as the round is settled", x.settle(), 1);
        Due.is("nobody has a seat of it", x.holders(0), 0);
        Due.is("nobody waits", x.waiting(0), 0);
        Due.is("points", x.points(0), 100);
        Due.is("bids", x.bids(), 0);
    }

    private static void promise9Points() {
        Classfederation x = Made.schoolWithRights(3, 2, 1);
        x.offer(0, 0, 0, false);
        x.offer(1, 1, 0, false);
        x.offer(2, 2, 0, false);
        x.bid(0, 0, 100);
        x.bid(1, 0, 60);
        x.settle();
        x.bid(1, 1, 41);
        x.bid(1, 2, 40);
        x.giveUp(0, 0);
        Due.is("of 40 points left", x.settle(), 1);
        Due.is("not the one of 41", x.holders(1), 0);
        Due.is("but the one of 40", x.paid(1, 2), 40);
        Due.is("all points gone", x.points(1), 0);
    }

    private static void promise10() {
        Classfederation x = Made.schoolWithRights(1, 1, 1);
        for (int i = 0; i < 5; i++) {
            Due.is("rounds", x.rounds(), i);
            x.settle();
        }
        Due.is("rounds", x.rounds(), 5);
    }

    private static void promise11() {
        Classfederation x = Made.schoolWithRights(1, 2, 1);
        x.offer(0, 0, 0, false);
        x.bid(1, 0, 33);
        Due.is("told bids cost nothing", x.points(1), 100);
        x.settle();
        Due.is("paid", x.points(1), 67);
        Due.is("another's", x.points(0), 100);
        x.move(0, 1);
        Due.is("half back, cut", x.points(1), 83);
        x.giveUp(1, 0);
        Due.is("half of 17 back, cut", x.points(1), 91);
        Due.refuses("no such pupil", x, IndexOutOfBoundsException.class, () -> x.points(2));
        Due.refuses("no such pupil", x, IndexOutOfBoundsException.class, () -> x.points(-1));
    }

    private static String waiters(Classfederation x, int offer) {
        StringBuilder text = new StringBuilder();
        for (int i = 0; i < x.waiting(offer); i++) {
            text.append(x.waiter(offer, i)).append(' ');
        }
        return text.toString();
    }
}
