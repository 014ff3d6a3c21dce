import java.lang.reflect.Field;

/**
 * Promise 36 where it answers false. No call leads there, so the test spoils the fields of the object itself: it has to
 * follow when these get other names.
 */
public final class IsTrueTest {
    private static final int NO_SEAT = -1;

    private IsTrueTest() { }

    public static void main(String[] args) throws ReflectiveOperationException {
        points();
        twoSeats();
        offers();
        waiters();
        Due.end();
    }

    private static void points() throws ReflectiveOperationException {
        for (int pupil = 0; pupil < 3; pupil++) {
            Classfederation x = school();
            row(x, "pointsLeft")[pupil]++;
            Due.isNot("isTrue with a point too many", x.isTrue());
            row(x, "pointsLeft")[pupil] -= 2;
            Due.isNot("isTrue with a point too few", x.isTrue());
        }
        Classfederation x = school();
        row(offer(x, 0), "paidBy")[0]--;
        Due.isNot("isTrue with a point of what was paid gone", x.isTrue());
    }

    private static void twoSeats() throws ReflectiveOperationException {
        // Pupil 0 has a seat of offer 0, a first one of exam 0; each other offer is spoilt into one seat more.
        for (int other = 1; other < 4; other++) {
            Classfederation x = school();
            seat(x, 0, other);
            boolean clashes = other != 3;
            Due.is("isTrue with a seat of offer " + other, x.isTrue() ? 1 : 0, clashes ? 0 : 1);
        }
    }

    private static void offers() throws ReflectiveOperationException {
        Classfederation x = school();
        field(offer(x, 0), "seats").setInt(offer(x, 0), 0);
        Due.isNot("isTrue with more than its seats", x.isTrue());
        Classfederation y = school();
        field(offer(y, 2), "slot").setInt(offer(y, 2), 0);
        Due.isNot("isTrue with two offers in a room", y.isTrue());
    }

    private static void waiters() throws ReflectiveOperationException {
        Classfederation x = school();
        Due.is("pupil 1 waits", x.waiter(0, 0), 1);
        row(offer(x, 0), "waiters")[0] = 0;
        Due.isNot("isTrue where a waiter has a seat", x.isTrue());
    }

    /** Offer 1 is at the slot of offer 0, offer 2 of its exam, offer 3 a resit of it at a third slot. */
    private static Classfederation school() {
        Classfederation x = Made.schoolWithRights(2, 3, 1, 1);
        x.offer(0, 0, 0, false);
        x.offer(1, 0, 1, false);
        x.offer(0, 1, 0, false);
        x.offer(0, 2, 0, true);
        x.bid(0, 0, 21);
        x.bid(1, 0, 11);
        x.bid(2, 2, 15);
        x.settle();
        x.giveUp(2, 2);
        Due.isSo("isTrue", x.isTrue());
        return x;
    }

    private static void seat(Classfederation x, int pupil, int offer) throws ReflectiveOperationException {
        int[] paid = row(offer(x, offer), "paidBy");
        if (paid[pupil] == NO_SEAT) {
            paid[pupil] = 5;
            row(x, "pointsLeft")[pupil] -= 5;
        }
    }

    private static Object offer(Classfederation x, int offer) throws ReflectiveOperationException {
        return ((Object[]) field(x, "offers").get(x))[offer];
    }

    private static int[] row(Object of, String name) throws ReflectiveOperationException {
        return (int[]) field(of, name).get(of);
    }

    private static Field field(Object of, String name) throws ReflectiveOperationException {
        Field field = of.getClass().getDeclaredField(name);
        field.setAccessible(true);
        return field;
    }
}
