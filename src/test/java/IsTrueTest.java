import java.lang.reflect.Field;

/**
 * Promise 36 where it answers false. No call leads there, so each test spoils the fields of an object: it has to follow
 * when these get other names.
 */
public final class IsTrueTest {
    private static final int NO_SEAT = -1;

    private IsTrueTest() { }

    public static void main(String[] args) throws IllegalAccessException {
        Suite.run(IsTrueTest.class);
    }

    @Says(promise = 36, text = "that no pupil has two seats at one slot, or of one exam, first and resit apart")
    static void notTrueWithTwoSeatsAtOneSlot() throws ReflectiveOperationException {
        Classfederation x = school();
        giveSeat(x, 0, 1);
        Due.isNot("isTrue with a seat of offer 1, at the slot of offer 0", x.isTrue());
    }

    @Says(promise = 36, text = "that no pupil has two seats at one slot, or of one exam, first and resit apart")
    static void notTrueWithTwoSeatsOfOneExam() throws ReflectiveOperationException {
        Classfederation x = school();
        giveSeat(x, 0, 2);
        Due.isNot("isTrue with a seat of offer 2, of the exam of offer 0", x.isTrue());
        Classfederation y = school();
        giveSeat(y, 0, 3);
        Due.isSo("isTrue with a seat of offer 3, a resit", y.isTrue());
        giveSeat(y, 0, 4);
        Due.isNot("isTrue with a seat of offer 4, a second resit", y.isTrue());
    }

    @Says(promise = 36, text = "that no offer has more than its seats, or its room another offer at its slot")
    static void notTrueWithMoreThanItsSeats() throws ReflectiveOperationException {
        Classfederation x = school();
        field(offer(x, 0), "seats").setInt(offer(x, 0), 0);
        Due.isNot("isTrue with one of no seats", x.isTrue());
    }

    @Says(promise = 36, text = "that no offer has more than its seats, or its room another offer at its slot")
    static void notTrueWithTwoOffersInOneRoomAtOneSlot() throws ReflectiveOperationException {
        Classfederation x = school();
        field(offer(x, 4), "slot").setInt(offer(x, 4), 3);
        Due.isSo("isTrue where the slot is that of another room's", x.isTrue());
        field(offer(x, 4), "slot").setInt(offer(x, 4), 2);
        Due.isNot("isTrue where offer 3 is in the room", x.isTrue());
    }

    @Says(promise = 36, text = "that points left, and paid, make 100 less what was paid for seats given up and moves, and not brought back")
    static void notTrueWithAPointTooManyOrTooFew() throws ReflectiveOperationException {
        for (int pupil = 0; pupil < 3; pupil++) {
            Classfederation x = school();
            row(x, "pointsLeft")[pupil]++;
            Due.isNot("isTrue with a point too many", x.isTrue());
            row(x, "pointsLeft")[pupil] -= 2;
            Due.isNot("isTrue with a point too few", x.isTrue());
            row(x, "pointsLeft")[pupil]++;
            Due.isSo("isTrue with the points as they were", x.isTrue());
        }
    }

    @Says(promise = 36, text = "that points left, and paid, make 100 less what was paid for seats given up and moves, and not brought back")
    static void notTrueWithAPointOfWhatWasPaidGone() throws ReflectiveOperationException {
        Classfederation x = school();
        row(offer(x, 0), "paidBy")[0]--;
        Due.isNot("isTrue", x.isTrue());
    }

    @Says(promise = 36, text = "and that nobody waits who has a seat of it.")
    static void notTrueWhereAHolderWaits() throws ReflectiveOperationException {
        Classfederation x = school();
        Due.is("pupil 1 waits", x.waiter(0, 0), 1);
        row(offer(x, 0), "waiters")[0] = 0;
        Due.isNot("isTrue where pupil 0, who has the seat, waits", x.isTrue());
    }

    /**
     * Pupil 0 has the one seat of offer 0, pupil 1 waits for it, and 2 gave one up. Offer 1 is at its slot, offer 2 of
     * its exam, the offers 3 and 4 are resits of that, at the slots 2 and 4 in room 0; offer 5 is at slot 3 in room 1.
     */
    private static Classfederation school() {
        Classfederation x = Made.schoolWithRights(2, 3, 1, 1);
        x.offer(0, 0, 0, false);
        x.offer(1, 0, 1, false);
        x.offer(0, 1, 0, false);
        x.offer(0, 2, 0, true);
        x.offer(0, 4, 0, true);
        x.offer(1, 3, 1, false);
        x.bid(0, 0, 21);
        x.bid(1, 0, 11);
        x.bid(2, 2, 15);
        x.settle();
        x.giveUp(2, 2);
        Due.isSo("isTrue", x.isTrue());
        return x;
    }

    private static void giveSeat(Classfederation x, int pupil, int offer) throws ReflectiveOperationException {
        int[] paid = row(offer(x, offer), "paidBy");
        Due.is("no seat before", paid[pupil], NO_SEAT);
        paid[pupil] = 5;
        row(x, "pointsLeft")[pupil] -= 5;
    }

    private static Object offer(Classfederation x, int offer) throws ReflectiveOperationException {
        return ((Object[]) field(x, "offers").get(x))[offer];
    }

    private static int[] row(Object of, String name) throws ReflectiveOperationException {
        return (int[]) field(of, name).get(of);
    }

    private static Field field(Object of, String name) throws ReflectiveOperationException {
        Field field = of.getClass().getDeclaredField(name);
        field.setAccessible(true);
        return field;
    }
}
