import java.util.List;
import java.util.function.Consumer;
import java.util.function.IntSupplier;
import java.util.function.IntUnaryOperator;
import java.util.function.Supplier;

/**
 * All that a school answers, now and later on, as one text. Each look is at a school of its own, made anew: some looks
 * use it up (they take bids back, settle, give seats up, sit), and no object is promised to answer after 512 calls.
 */
final class Looks {
    private static final int MOST_CALLS_FOR_A_LOOK = 350;
    /** For slot, holders and waiters, as many as there may be. */
    private static final int MOST_CALLS_FOR_AN_OFFER = 1 + 1 + 2 * 6 + 1 + 9;
    private static final char[] FIELDS = {'r', 'm', 'x'};
    private static final List<Consumer<Looks>> WAYS = List.of(Looks::addSchool, Looks::addOffers,
            Looks::addBidsTakenBack, Looks::addRoundSettled, Looks::addSeatsGivenUp, Looks::addSlotsSat);

    private final Classfederation x;
    private final StringBuilder text = new StringBuilder();
    private int calls;

    private Looks(Classfederation x) {
        this.x = x;
    }

    static String of(Supplier<Classfederation> made) {
        StringBuilder all = new StringBuilder();
        for (Consumer<Looks> way : WAYS) {
            all.append(seen(made, way));
        }
        int pupils = new Looks(made.get()).pupils();
        for (int pupil = 0; pupil < pupils; pupil++) {
            int p = pupil;
            all.append(seen(made, look -> look.addPupil(p)));
        }
        return all.toString();
    }

    private static String seen(Supplier<Classfederation> made, Consumer<Looks> way) {
        Looks look = new Looks(made.get());
        way.accept(look);
        if (look.calls > MOST_CALLS_FOR_A_LOOK) {
            Due.wrong("a look asks " + look.calls + " calls of one object");
        }
        return look.text.append('\n').toString();
    }

    /** How many of the numbers from 0 on are there. */
    private int many(int most, IntUnaryOperator call) {
        for (int number = 0; number < most; number++) {
            int n = number;
            calls++;
            if (Due.told(() -> call.applyAsInt(n)).equals("IndexOutOfBoundsException")) {
                return n;
            }
        }
        return most;
    }

    private int pupils() {
        return many(10, x::points);
    }

    private int offers() {
        return many(12, x::slotOf);
    }

    private void add(String name, IntSupplier call) {
        calls++;
        text.append(' ').append(name).append(' ').append(Due.told(call));
    }

    /** The school as a whole; the numbers of what is added next tell how many rooms, exams and pupils there are. */
    private void addSchool() {
        add("bids", x::bids);
        add("rounds", x::rounds);
        add("refunds", x::refunds);
        add("true", () -> x.isTrue() ? 1 : 0);
        add("share", () -> (int) (x.takenShare() * 1000f));
        add("mean", () -> (int) (x.meanPoints() * 1000.0));
        for (char field : FIELDS) {
            add("owner", () -> x.owner(field));
            add("apart", () -> x.apart(field));
        }
        add("room", () -> x.room(1));
        add("exam", x::exam);
        add("pupil", x::pupil);
        for (int slot = 0; slot < 6; slot++) {
            int s = slot;
            add("offer", () -> x.offer(0, s, 0, false));
        }
    }

    private void addPupil(int pupil) {
        text.append("\npupil ").append(pupil);
        add("points", () -> x.points(pupil));
        for (int slot = 0; slot < 6; slot++) {
            int s = slot;
            add("at", () -> x.at(pupil, s));
            add("more", () -> x.more(pupil, s));
        }
        int exams = many(6, exam -> x.maySit(pupil, exam) ? 1 : 0);
        for (int exam = 0; exam < exams; exam++) {
            addRecords(pupil, exam);
        }
    }

    private void addRecords(int pupil, int exam) {
        text.append("\n  exam ").append(exam);
        add("first", () -> x.seat(pupil, exam, false));
        add("resit", () -> x.seat(pupil, exam, true));
        add("sat", () -> x.hasSat(pupil, exam, false) ? 1 : 0);
        add("sat", () -> x.hasSat(pupil, exam, true) ? 1 : 0);
        add("may", () -> x.maySit(pupil, exam) ? 1 : 0);
        add("open", () -> x.isOpen(pupil, exam) ? 1 : 0);
        for (int store = 0; store < 3; store++) {
            int s = store;
            for (char field : FIELDS) {
                add("read", () -> x.read(s, pupil, exam, field));
            }
        }
    }

    private void addOffers() {
        int offers = offers();
        for (int offer = 0; offer < offers; offer++) {
            calls += MOST_CALLS_FOR_AN_OFFER;
            text.append("\noffer ").append(offer).append(" at ").append(x.slotOf(offer));
            text.append(" holders ").append(Made.holders(x, offer)).append(" waiters ").append(Made.waiters(x, offer));
        }
    }

    /** Tells the order and the points of the told bids. */
    private void addRoundSettled() {
        add("settle", x::settle);
        addOffers();
    }

    private void addBidsTakenBack() {
        int pupils = pupils();
        int offers = offers();
        for (int pupil = 0; pupil < pupils; pupil++) {
            for (int offer = 0; offer < offers; offer++) {
                int p = pupil;
                int o = offer;
                add("unbid", () -> x.unbid(p, o));
            }
        }
    }

    /** Who moves up then, and what that leaves of the points, tells the queues with the points bid there. */
    private void addSeatsGivenUp() {
        int pupils = pupils();
        int offers = offers();
        for (int offer = 0; offer < offers; offer++) {
            for (int pupil = 0; pupil < pupils; pupil++) {
                int p = pupil;
                int o = offer;
                add("giveUp", () -> x.giveUp(p, o));
            }
        }
        for (int pupil = 0; pupil < pupils; pupil++) {
            int p = pupil;
            add("points", () -> x.points(p));
        }
        add("refunds", x::refunds);
        add("true", () -> x.isTrue() ? 1 : 0);
    }

    private void addSlotsSat() {
        for (int slot = 0; slot < 6; slot++) {
            int s = slot;
            add("sit", () -> x.sit(s));
        }
        add("refunds", x::refunds);
    }
}
