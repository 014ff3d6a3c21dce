import java.util.NoSuchElementException;

/** Promises 31 to 36: sitting, minutes more, and the figures of the whole school. */
public final class SittingTest {
    private SittingTest() { }

    public static void main(String[] args) {
        promise31();
        promise31NobodyMovesUp();
        promise31Refused();
        promise32();
        promise33();
        promise34();
        promise35();
        promise36();
        fullSchool();
        Due.end();
    }

    private static void promise31() {
        Classfederation x = Made.schoolWithRights(3, 6, 2, 2, 2);
        x.offer(0, 2, 0, false);
        x.offer(1, 2, 1, false);
        x.offer(2, 3, 2, false);
        x.bid(0, 0, 11);
        x.bid(1, 0, 12);
        x.bid(2, 1, 13);
        x.bid(3, 1, 14);
        x.bid(4, 2, 15);
        x.settle();
        x.write(2, 1, 0, 'r', 0);
        Made.everywhere(x, 2, 1, 'r', 0);
        Made.everywhere(x, 3, 1, 'm', 90);
        Made.everywhere(x, 4, 2, 'r', 0);
        Due.is("who sat", x.sit(2), 2);
        Due.is("who sat keeps the seat", x.seat(0, 0, false), 0);
        Due.is("and what was paid", x.paid(0, 0), 11);
        Due.is("a mark keeps nobody out", x.seat(3, 1, false), 1);
        Due.refuses("where the right is apart", x, NoSuchElementException.class, () -> x.seat(1, 0, false));
        Due.refuses("without the right", x, NoSuchElementException.class, () -> x.seat(2, 1, false));
        Due.is("all back", x.points(1) + x.points(2), 200);
        Due.is("refunds", x.refunds(), 25);
        Due.is("another slot is not sat", x.holders(2), 1);
        Due.is("a slot of nobody", x.sit(0), 0);
        Due.is("kept out", x.sit(3), 0);
        Due.is("refunds", x.refunds(), 40);
        Due.isSo("isTrue", x.isTrue());
        Made.everywhere(x, 4, 2, 'r', 1);
        x.offer(2, 4, 2, false);
        x.bid(4, 3, 15);
        Due.is("who was kept out can have another", x.settle(), 1);

        Classfederation y = Made.schoolWithRights(1, 2, 2);
        y.offer(0, 0, 0, true);
        Made.everywhere(y, 0, 0, 'm', 20);
        y.bid(0, 0, 10);
        y.settle();
        Made.everywhere(y, 0, 0, 'm', 80);
        Due.is("a resit that is open no more is sat", y.sit(0), 1);
    }

    private static void promise31NobodyMovesUp() {
        Classfederation x = Made.schoolWithRights(1, 3, 1);
        x.offer(0, 0, 0, false);
        x.bid(0, 0, 11);
        x.bid(1, 0, 10);
        x.settle();
        Made.everywhere(x, 0, 0, 'r', 0);
        Due.is("nobody sat", x.sit(0), 0);
        Due.is("nobody moved up", x.holders(0), 0);
        Due.is("who waits waits on", x.waiter(0, 0), 1);
        Due.refuses("no bids", x, UnsupportedOperationException.class, () -> x.bid(2, 0, 1));
    }

    private static void promise31Refused() {
        Classfederation x = Made.schoolWithRights(1, 1, 1);
        for (int slot : new int[] {-1, 6, Integer.MAX_VALUE, Integer.MIN_VALUE}) {
            Due.refuses("slot " + slot, x, IllegalArgumentException.class, () -> x.sit(slot));
        }
        for (int i = 0; i < 6; i++) {
            int slot = i;
            Due.is("sit", x.sit(slot), 0);
            Due.refuses("sit again", x, UnsupportedOperationException.class, () -> x.sit(slot));
        }
    }

    private static void promise32() {
        Classfederation x = Made.schoolWithRights(2, 2, 2);
        x.offer(0, 0, 0, false);
        x.offer(0, 1, 0, true);
        x.offer(1, 2, 0, false);
        x.bid(0, 0, 10);
        x.bid(1, 0, 10);
        x.bid(0, 2, 10);
        x.settle();
        Due.isNot("not yet", x.hasSat(0, 0, false));
        Made.everywhere(x, 1, 0, 'r', 0);
        x.sit(0);
        Due.isSo("sat", x.hasSat(0, 0, false));
        Due.isNot("not the resit", x.hasSat(0, 0, true));
        Due.isNot("not another exam", x.hasSat(0, 1, false));
        Due.isNot("kept out", x.hasSat(1, 0, false));
        Made.everywhere(x, 0, 0, 'm', 0);
        x.bid(0, 1, 10);
        x.settle();
        Due.isNot("the resit not yet", x.hasSat(0, 0, true));
        x.sit(1);
        Due.isSo("the resit", x.hasSat(0, 0, true));
        Due.isSo("and the first still", x.hasSat(0, 0, false));
        int[][] none = {{2, 0}, {-1, 0}, {0, 2}, {0, -1}};
        for (int[] p : none) {
            Due.refuses("no such", x, IndexOutOfBoundsException.class, () -> x.hasSat(p[0], p[1], false));
        }
    }

    private static void promise33() {
        Classfederation x = Made.schoolWithRights(2, 2, 2);
        x.offer(0, 0, 0, false);
        x.offer(1, 3, 0, false);
        x.bid(0, 0, 10);
        x.bid(0, 1, 10);
        x.settle();
        Due.is("none more", x.more(0, 0), 0);
        x.write(0, 0, 0, 'x', 10);
        x.write(1, 0, 0, 'x', 20);
        x.write(2, 0, 0, 'x', 30);
        x.write(2, 0, 1, 'x', 60);
        Due.is("by their owner", x.more(0, 0), 30);
        Due.is("of the exam there", x.more(0, 3), 60);
        x.sync(2, 1);
        x.setOwner('x', 1);
        x.write(1, 0, 0, 'x', 45);
        Due.is("by their new owner", x.more(0, 0), 45);
        x.sit(0);
        Due.is("where the slot was sat", x.more(0, 0), 45);
        Due.refuses("no exam", x, NoSuchElementException.class, () -> x.more(0, 1));
        Due.refuses("no exam", x, NoSuchElementException.class, () -> x.more(1, 0));
        Due.refuses("slot 6", x, IllegalArgumentException.class, () -> x.more(0, 6));
        Due.refuses("slot -1", x, IllegalArgumentException.class, () -> x.more(0, -1));
        Due.refuses("no such pupil", x, IndexOutOfBoundsException.class, () -> x.more(2, 0));
        Due.refuses("no such pupil, slot 6", x, IndexOutOfBoundsException.class, () -> x.more(-1, 6));
    }

    private static void promise34() {
        Classfederation x = Made.schoolWithRights(2, 3, 6, 1);
        Due.refuses("no offers", x, ArithmeticException.class, x::takenShare);
        x.offer(0, 0, 0, false);
        Due.is("none taken", x.takenShare(), 0);
        x.offer(1, 1, 1, false);
        x.bid(0, 0, 1);
        x.settle();
        Due.is("one of seven", x.takenShare(), 1f / 7f);
        x.bid(1, 0, 1);
        x.bid(1, 1, 1);
        x.settle();
        Due.is("three of seven", x.takenShare(), 3f / 7f);
        x.offer(0, 2, 1, false);
        Due.is("three of eight", x.takenShare(), 0.375);
        x.sit(0);
        Due.is("who sat keeps the seat", x.takenShare(), 0.375);
        x.giveUp(1, 1);
        Due.is("two of eight", x.takenShare(), 0.25);
    }

    private static void promise35() {
        Classfederation x = new Classfederation();
        Due.refuses("no pupils", x, ArithmeticException.class, x::meanPoints);
        x.pupil();
        Due.is("one pupil", x.meanPoints(), 100);
        x.pupil();
        x.pupil();
        x.exam();
        x.room(1);
        x.offer(0, 0, 0, false);
        Made.everywhere(x, 0, 0, 'r', 1);
        x.bid(0, 0, 1);
        x.settle();
        Due.is("299 by 3", x.meanPoints(), 299.0 / 3.0);
        x.giveUp(0, 0);
        Due.is("299 by 3", x.meanPoints(), 299.0 / 3.0);
    }

    /** No run of calls may make it false; PlainModelTest asks it after every call too, IsTrueTest where it is false. */
    private static void promise36() {
        Classfederation x = Made.schoolWithRights(2, 3, 1, 1);
        Due.isSo("with pupils", x.isTrue());
        x.offer(0, 0, 0, false);
        x.offer(1, 0, 1, false);
        x.offer(1, 1, 1, false);
        x.offer(0, 1, 0, true);
        x.bid(0, 0, 33);
        x.bid(1, 0, 21);
        x.bid(0, 2, 33);
        x.bid(2, 0, 11);
        x.settle();
        Due.isSo("settled", x.isTrue());
        x.giveUp(0, 0);
        Due.isSo("given up", x.isTrue());
        x.move(2, 4);
        Due.isSo("moved", x.isTrue());
        Made.everywhere(x, 1, 0, 'm', 12);
        x.bid(1, 3, 12);
        x.settle();
        Due.isSo("first and resit", x.isTrue());
        Made.everywhere(x, 1, 0, 'r', 0);
        x.sit(1);
        Due.isSo("kept out", x.isTrue());
        x.giveUp(1, 0);
        x.bid(2, 2, 50);
        x.settle();
        Due.isSo("a resit given back", x.isTrue());
    }

    /** As many rooms, exams, pupils and offers as there can be, with every pupil in a seat. */
    private static void fullSchool() {
        Classfederation x = Made.schoolWithRights(6, 10, 6, 6, 6);
        for (int i = 0; i < 12; i++) {
            x.offer(i % 6, i % 4, i / 4, i >= 6);
        }
        for (int pupil = 0; pupil < 10; pupil++) {
            x.bid(pupil, pupil < 5 ? 0 : 1, 10 + pupil);
        }
        Due.is("settle", x.settle(), 10);
        Due.is("meanPoints", x.meanPoints(), 85.5);
        Due.is("takenShare", x.takenShare(), 10f / 72f);
        Due.is("move", x.move(0, 5), 0);
        Due.is("points", x.points(4), 93);
        Due.is("sit", x.sit(5), 5);
        Due.is("sit", x.sit(1), 5);
        Due.isSo("hasSat", x.hasSat(9, 1, false));
        Due.isSo("isTrue", x.isTrue());
    }
}
