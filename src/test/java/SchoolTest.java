/** Promises 1 to 5 and 21: a new object, rooms, exams, pupils, offers and their slots. */
public final class SchoolTest {
    private SchoolTest() { }

    public static void main(String[] args) {
        promise1();
        promise2();
        promise3();
        promise4();
        promise5();
        promise5Limits();
        promise5Order();
        promise21();
        Due.end();
    }

    private static void promise1() {
        Classfederation x = new Classfederation();
        Due.is("bids", x.bids(), 0);
        Due.is("rounds", x.rounds(), 0);
        Due.is("refunds", x.refunds(), 0);
        Due.isSo("isTrue", x.isTrue());
        Due.refuses("points without pupils", x, IndexOutOfBoundsException.class, () -> x.points(0));
        Due.refuses("slotOf without offers", x, IndexOutOfBoundsException.class, () -> x.slotOf(0));
        x.pupil();
        Due.refuses("maySit without exams", x, IndexOutOfBoundsException.class, () -> x.maySit(0, 0));
        x.exam();
        Due.refuses("offer without rooms", x, IndexOutOfBoundsException.class, () -> x.offer(0, 0, 0, false));
        for (int store = 0; store < 3; store++) {
            Due.is("r at first", x.read(store, 0, 0, 'r'), 0);
            Due.is("m at first", x.read(store, 0, 0, 'm'), -1);
            Due.is("x at first", x.read(store, 0, 0, 'x'), 0);
        }
        Classfederation y = new Classfederation();
        Due.is("exam of another object", y.exam(), 0);
        Due.is("pupil of another object", y.pupil(), 0);
        Due.is("room of another object", y.room(1), 0);
    }

    private static void promise2() {
        Classfederation x = new Classfederation();
        for (int seats : new int[] {0, 7, -1, Integer.MAX_VALUE, Integer.MIN_VALUE}) {
            Due.refuses("room(" + seats + ")", x, IllegalArgumentException.class, () -> x.room(seats));
        }
        Due.is("room", x.room(1), 0);
        Due.is("room", x.room(6), 1);
        Due.is("room", x.room(3), 2);
        Due.refuses("a fourth room", x, IllegalStateException.class, () -> x.room(1));
        Due.refuses("a fourth room of 7", x, IllegalArgumentException.class, () -> x.room(7));
        x.exam();
        x.offer(0, 0, 0, false);
        x.offer(0, 0, 1, false);
        x.offer(0, 0, 2, false);
        for (int i = 0; i < 10; i++) {
            x.pupil();
            Made.everywhere(x, i, 0, 'r', 1);
        }
        // Ten pupils fill the seats of the three rooms in turn, so that each shows how many it has.
        for (int offer = 0; offer < 3; offer++) {
            for (int i = 0; i < 10; i++) {
                x.bid(i, offer, 1);
            }
            x.settle();
        }
        Due.is("seats of room 0", x.holders(0), 1);
        Due.is("seats of room 1", x.holders(1), 6);
        Due.is("seats of room 2", x.holders(2), 3);
    }

    private static void promise3() {
        Classfederation x = new Classfederation();
        x.pupil();
        for (int i = 0; i < 6; i++) {
            int exam = i;
            Due.refuses("maySit", x, IndexOutOfBoundsException.class, () -> x.maySit(0, exam));
            Due.is("exam", x.exam(), i);
            Due.isNot("maySit", x.maySit(0, exam));
        }
        Due.refuses("a seventh exam", x, IllegalStateException.class, x::exam);
    }

    private static void promise4() {
        Classfederation x = new Classfederation();
        for (int i = 0; i < 10; i++) {
            int pupil = i;
            Due.refuses("points", x, IndexOutOfBoundsException.class, () -> x.points(pupil));
            Due.is("pupil", x.pupil(), i);
            Due.is("points", x.points(i), 100);
        }
        Due.refuses("an eleventh pupil", x, IllegalStateException.class, x::pupil);
    }

    private static void promise5() {
        Classfederation x = Made.school(2, 1, 1, 2);
        Due.refuses("no such exam", x, IndexOutOfBoundsException.class, () -> x.offer(2, 0, 0, false));
        Due.refuses("no such exam", x, IndexOutOfBoundsException.class, () -> x.offer(-1, 0, 0, false));
        Due.refuses("no such room", x, IndexOutOfBoundsException.class, () -> x.offer(0, 0, 2, false));
        Due.refuses("no such room", x, IndexOutOfBoundsException.class, () -> x.offer(0, 0, -1, false));
        Due.refuses("slot 6", x, IllegalArgumentException.class, () -> x.offer(0, 6, 0, false));
        Due.refuses("slot -1", x, IllegalArgumentException.class, () -> x.offer(0, -1, 0, false));
        Due.is("offer", x.offer(0, 0, 0, false), 0);
        Due.is("offer", x.offer(1, 5, 1, true), 1);
        Due.is("the same slot in another room", x.offer(0, 0, 1, false), 2);
        Due.is("the same room at another slot", x.offer(0, 1, 0, false), 3);
        Due.refuses("the room is taken", x, UnsupportedOperationException.class, () -> x.offer(1, 0, 0, true));
        x.sit(3);
        Due.refuses("the slot was sat", x, UnsupportedOperationException.class, () -> x.offer(0, 3, 0, false));
        x.move(3, 4);
        Due.is("where an offer moved away", x.offer(0, 1, 0, false), 4);
        Due.refuses("where an offer moved to", x, UnsupportedOperationException.class, () -> x.offer(0, 4, 0, false));
    }

    private static void promise5Limits() {
        Classfederation x = Made.school(1, 1, 1, 1, 1);
        for (int i = 0; i < 12; i++) {
            int offer = i;
            Due.refuses("slotOf", x, IndexOutOfBoundsException.class, () -> x.slotOf(offer));
            Due.is("offer", x.offer(0, i / 3, i % 3, false), i);
        }
        Due.refuses("a thirteenth offer", x, IllegalStateException.class, () -> x.offer(0, 5, 0, false));
        Due.refuses("a thirteenth, taken", x, UnsupportedOperationException.class, () -> x.offer(0, 0, 0, false));
        x.sit(5);
        Due.refuses("a thirteenth, sat", x, UnsupportedOperationException.class, () -> x.offer(0, 5, 0, false));
        Due.refuses("a thirteenth, slot 6", x, IllegalArgumentException.class, () -> x.offer(0, 6, 0, false));
        Due.refuses("a thirteenth, no exam", x, IndexOutOfBoundsException.class, () -> x.offer(1, 4, 0, false));
    }

    private static void promise5Order() {
        Classfederation x = Made.school(1, 1, 1);
        Due.refuses("no exam, bad slot", x, IndexOutOfBoundsException.class, () -> x.offer(1, 6, 0, false));
        Due.refuses("no room, bad slot", x, IndexOutOfBoundsException.class, () -> x.offer(0, 6, 1, false));
        x.offer(0, 0, 0, false);
        Due.refuses("no room at a taken slot", x, IndexOutOfBoundsException.class, () -> x.offer(0, 0, 1, false));
    }

    private static void promise21() {
        Classfederation x = Made.school(1, 1, 1);
        x.offer(0, 5, 0, false);
        x.offer(0, 0, 0, false);
        Due.is("slotOf", x.slotOf(0), 5);
        Due.is("slotOf", x.slotOf(1), 0);
        x.move(0, 3);
        Due.is("slotOf a moved one", x.slotOf(0), 3);
        x.sit(3);
        Due.is("slotOf a closed one", x.slotOf(0), 3);
        Due.refuses("slotOf(2)", x, IndexOutOfBoundsException.class, () -> x.slotOf(2));
        Due.refuses("slotOf(-1)", x, IndexOutOfBoundsException.class, () -> x.slotOf(-1));
    }
}
