import java.util.ArrayList;
import java.util.Comparator;
import java.util.HashMap;
import java.util.List;
import java.util.Map;
import java.util.NoSuchElementException;
import java.util.TreeSet;

/** The document once more, written with the Java library's lists and maps and with no eye on what is made. */
final class PlainModel {
    record Bid(int pupil, int offer, int points) { }

    static final class Offer {
        int exam;
        int slot;
        int room;
        boolean isResit;
        final List<Bid> queue = new ArrayList<>();
    }

    static final class Seat {
        int pupil;
        Offer offer;
        int paid;
    }

    final List<Integer> rooms = new ArrayList<>();
    final List<Offer> offers = new ArrayList<>();
    final List<Seat> seats = new ArrayList<>();
    final List<Bid> told = new ArrayList<>();
    final List<Integer> points = new ArrayList<>();
    final Map<String, Integer> records = new HashMap<>();
    final Map<Character, Integer> owners = new HashMap<>(Map.of('r', 0, 'm', 1, 'x', 2));
    final TreeSet<Integer> sat = new TreeSet<>();
    final TreeSet<String> whoSat = new TreeSet<>();
    int exams;
    int rounds;
    int refunds;

    private static void fail(boolean so, RuntimeException e) {
        if (so) {
            throw e;
        }
    }

    private void therePupilExam(int pupil, int exam) {
        fail(pupil < 0 || pupil >= points.size() || exam < 0 || exam >= exams, new IndexOutOfBoundsException());
    }

    private void therePupilOffer(int pupil, int offer) {
        fail(pupil < 0 || pupil >= points.size(), new IndexOutOfBoundsException());
        fail(offer < 0 || offer >= offers.size(), new IndexOutOfBoundsException());
    }

    private void thereOffer(int offer) {
        fail(offer < 0 || offer >= offers.size(), new IndexOutOfBoundsException());
    }

    private static void thereSlot(int slot) {
        fail(slot < 0 || slot > 5, new IllegalArgumentException());
    }

    private static void thereStore(int store) {
        fail(store < 0 || store > 2, new IndexOutOfBoundsException());
    }

    private static void thereField(char field) {
        fail("rmx".indexOf(field) < 0, new IllegalArgumentException());
    }

    int room(int seats) {
        fail(seats < 1 || seats > 6, new IllegalArgumentException());
        fail(rooms.size() == 3, new IllegalStateException());
        rooms.add(seats);
        return rooms.size() - 1;
    }

    int exam() {
        fail(exams == 6, new IllegalStateException());
        return exams++;
    }

    int pupil() {
        fail(points.size() == 10, new IllegalStateException());
        points.add(100);
        return points.size() - 1;
    }

    private boolean roomTaken(int room, int slot) {
        return offers.stream().anyMatch(o -> o.room == room && o.slot == slot);
    }

    int offer(int exam, int slot, int room, boolean isResit) {
        fail(exam < 0 || exam >= exams || room < 0 || room >= rooms.size(), new IndexOutOfBoundsException());
        thereSlot(slot);
        fail(roomTaken(room, slot) || sat.contains(slot), new UnsupportedOperationException());
        fail(offers.size() == 12, new IllegalStateException());
        Offer made = new Offer();
        made.exam = exam;
        made.slot = slot;
        made.room = room;
        made.isResit = isResit;
        offers.add(made);
        return offers.size() - 1;
    }

    int bid(int pupil, int offer, int bidPoints) {
        therePupilOffer(pupil, offer);
        fail(bidPoints < 1 || bidPoints > 100, new IllegalArgumentException());
        int others = told.stream().filter(b -> b.pupil == pupil && b.offer != offer).mapToInt(Bid::points).sum();
        fail(sat.contains(offers.get(offer).slot), new UnsupportedOperationException());
        fail(others + bidPoints > points.get(pupil), new UnsupportedOperationException());
        told.removeIf(b -> b.pupil == pupil && b.offer == offer);
        told.add(new Bid(pupil, offer, bidPoints));
        return others + bidPoints;
    }

    int unbid(int pupil, int offer) {
        therePupilOffer(pupil, offer);
        for (Bid b : told) {
            if (b.pupil == pupil && b.offer == offer) {
                told.remove(b);
                return b.points;
            }
        }
        throw new NoSuchElementException();
    }

    private int value(int store, int pupil, int exam, char field) {
        return records.getOrDefault(store + "/" + pupil + "/" + exam + "/" + field, field == 'm' ? -1 : 0);
    }

    private boolean agree(int pupil, int exam, char field) {
        int a = value(0, pupil, exam, field);
        return a == value(1, pupil, exam, field) && a == value(2, pupil, exam, field);
    }

    private boolean allowed(int pupil, int exam) {
        return agree(pupil, exam, 'r') && value(0, pupil, exam, 'r') == 1;
    }

    private boolean open(int pupil, int exam) {
        int mark = value(0, pupil, exam, 'm');
        return agree(pupil, exam, 'm') && 0 <= mark && mark < 50;
    }

    private Seat seatOf(int pupil, Offer offer) {
        return seats.stream().filter(s -> s.pupil == pupil && s.offer == offer).findFirst().orElse(null);
    }

    private long takenOf(Offer offer) {
        return seats.stream().filter(s -> s.offer == offer).count();
    }

    private boolean couldIfFree(Bid b) {
        Offer o = offers.get(b.offer);
        boolean fits = allowed(b.pupil, o.exam);
        fits &= o.isResit ? open(b.pupil, o.exam) : value(owners.get('m'), b.pupil, o.exam, 'm') == -1;
        for (Seat s : seats) {
            if (s.pupil == b.pupil) {
                fits &= s.offer.slot != o.slot;
                fits &= s.offer.exam != o.exam || s.offer.isResit != o.isResit;
            }
        }
        return fits && points.get(b.pupil) >= b.points && !sat.contains(o.slot);
    }

    private void give(Bid b) {
        Offer o = offers.get(b.offer);
        Seat s = new Seat();
        s.pupil = b.pupil;
        s.offer = o;
        s.paid = b.points;
        seats.add(s);
        points.set(b.pupil, points.get(b.pupil) - b.points);
        for (Offer other : offers) {
            if (other.exam == o.exam && other.isResit == o.isResit) {
                other.queue.removeIf(w -> w.pupil == b.pupil);
            }
        }
    }

    private void back(int pupil, int many) {
        points.set(pupil, points.get(pupil) + many);
        refunds += many;
    }

    private int moveUp(Offer o) {
        if (takenOf(o) < rooms.get(o.room)) {
            for (Bid b : o.queue) {
                if (couldIfFree(b)) {
                    give(b);
                    return b.pupil;
                }
            }
        }
        return -1;
    }

    int settle() {
        List<Bid> order = new ArrayList<>(told);
        order.sort(Comparator.comparingInt(Bid::points).reversed());
        told.clear();
        rounds++;
        int given = 0;
        for (Bid b : order) {
            Offer o = offers.get(b.offer);
            if (couldIfFree(b) && takenOf(o) < rooms.get(o.room)) {
                give(b);
                given++;
            } else if (couldIfFree(b) && o.queue.stream().noneMatch(w -> w.pupil == b.pupil)) {
                o.queue.add(b);
            }
        }
        return given;
    }

    int pointsOf(int pupil) {
        fail(pupil < 0 || pupil >= points.size(), new IndexOutOfBoundsException());
        return points.get(pupil);
    }

    int seat(int pupil, int exam, boolean isResit) {
        therePupilExam(pupil, exam);
        for (Seat s : seats) {
            if (s.pupil == pupil && s.offer.exam == exam && s.offer.isResit == isResit) {
                return offers.indexOf(s.offer);
            }
        }
        throw new NoSuchElementException();
    }

    int at(int pupil, int slot) {
        fail(pupil < 0 || pupil >= points.size(), new IndexOutOfBoundsException());
        thereSlot(slot);
        for (Seat s : seats) {
            if (s.pupil == pupil && s.offer.slot == slot) {
                return s.offer.exam;
            }
        }
        throw new NoSuchElementException();
    }

    int holders(int offer) {
        thereOffer(offer);
        return (int) takenOf(offers.get(offer));
    }

    int holder(int offer, int index) {
        thereOffer(offer);
        List<Integer> all = seats.stream().filter(s -> s.offer == offers.get(offer)).map(s -> s.pupil).sorted().toList();
        fail(index < 0 || index >= all.size(), new NoSuchElementException());
        return all.get(index);
    }

    int paid(int pupil, int offer) {
        therePupilOffer(pupil, offer);
        Seat s = seatOf(pupil, offers.get(offer));
        fail(s == null, new NoSuchElementException());
        return s.paid;
    }

    int waiting(int offer) {
        thereOffer(offer);
        return offers.get(offer).queue.size();
    }

    int waiter(int offer, int index) {
        thereOffer(offer);
        fail(index < 0 || index >= offers.get(offer).queue.size(), new NoSuchElementException());
        return offers.get(offer).queue.get(index).pupil;
    }

    int giveUp(int pupil, int offer) {
        therePupilOffer(pupil, offer);
        Offer o = offers.get(offer);
        Seat s = seatOf(pupil, o);
        fail(s == null || sat.contains(o.slot), new UnsupportedOperationException());
        seats.remove(s);
        back(pupil, s.paid / 2);
        return moveUp(o);
    }

    int move(int offer, int slot) {
        thereOffer(offer);
        thereSlot(slot);
        Offer o = offers.get(offer);
        fail(sat.contains(o.slot) || o.slot == slot || sat.contains(slot) || roomTaken(o.room, slot),
                new UnsupportedOperationException());
        List<Seat> here = new ArrayList<>(seats.stream().filter(s -> s.offer == o).toList());
        here.sort(Comparator.comparingInt(s -> s.pupil));
        int lost = 0;
        for (Seat s : here) {
            if (seats.stream().anyMatch(t -> t.pupil == s.pupil && t.offer.slot == slot)) {
                seats.remove(s);
                back(s.pupil, s.paid);
                lost++;
            } else {
                int half = s.paid / 2;
                s.paid -= half;
                back(s.pupil, half);
            }
        }
        o.slot = slot;
        int up = moveUp(o);
        while (up >= 0) {
            up = moveUp(o);
        }
        return lost;
    }

    int slotOf(int offer) {
        thereOffer(offer);
        return offers.get(offer).slot;
    }

    int write(int store, int pupil, int exam, char field, int value) {
        thereStore(store);
        therePupilExam(pupil, exam);
        thereField(field);
        fail(field == 'r' && (value < 0 || value > 1), new IllegalArgumentException());
        fail(field == 'm' && (value < -1 || value > 100), new IllegalArgumentException());
        fail(field == 'x' && (value < 0 || value > 60), new IllegalArgumentException());
        int before = value(store, pupil, exam, field);
        records.put(store + "/" + pupil + "/" + exam + "/" + field, value);
        return before;
    }

    int read(int store, int pupil, int exam, char field) {
        thereStore(store);
        therePupilExam(pupil, exam);
        thereField(field);
        return value(store, pupil, exam, field);
    }

    int sync(int from, int to) {
        thereStore(from);
        thereStore(to);
        fail(from == to, new IllegalArgumentException());
        int changed = 0;
        for (char field : new char[] {'r', 'm', 'x'}) {
            for (int pupil = 0; owners.get(field) == from && pupil < points.size(); pupil++) {
                for (int exam = 0; exam < exams; exam++) {
                    int value = value(from, pupil, exam, field);
                    changed += write(to, pupil, exam, field, value) == value ? 0 : 1;
                }
            }
        }
        return changed;
    }

    int owner(char field) {
        thereField(field);
        return owners.get(field);
    }

    int setOwner(char field, int store) {
        thereField(field);
        thereStore(store);
        int before = owners.get(field);
        for (int pupil = 0; pupil < points.size(); pupil++) {
            for (int exam = 0; exam < exams; exam++) {
                fail(value(before, pupil, exam, field) != value(store, pupil, exam, field),
                        new UnsupportedOperationException());
            }
        }
        owners.put(field, store);
        return before;
    }

    int apart(char field) {
        thereField(field);
        int many = 0;
        for (int pupil = 0; pupil < points.size(); pupil++) {
            for (int exam = 0; exam < exams; exam++) {
                many += agree(pupil, exam, field) ? 0 : 1;
            }
        }
        return many;
    }

    boolean maySit(int pupil, int exam) {
        therePupilExam(pupil, exam);
        return allowed(pupil, exam);
    }

    boolean isOpen(int pupil, int exam) {
        therePupilExam(pupil, exam);
        return open(pupil, exam);
    }

    int sit(int slot) {
        thereSlot(slot);
        fail(sat.contains(slot), new UnsupportedOperationException());
        int many = 0;
        for (Seat s : new ArrayList<>(seats)) {
            if (s.offer.slot != slot) {
                continue;
            }
            if (allowed(s.pupil, s.offer.exam)) {
                whoSat.add(s.pupil + "/" + s.offer.exam + "/" + s.offer.isResit);
                many++;
            } else {
                seats.remove(s);
                back(s.pupil, s.paid);
            }
        }
        sat.add(slot);
        return many;
    }

    boolean hasSat(int pupil, int exam, boolean isResit) {
        therePupilExam(pupil, exam);
        return whoSat.contains(pupil + "/" + exam + "/" + isResit);
    }

    int more(int pupil, int slot) {
        return value(owners.get('x'), pupil, at(pupil, slot), 'x');
    }

    float takenShare() {
        fail(offers.isEmpty(), new ArithmeticException());
        return (float) seats.size() / (float) offers.stream().mapToInt(o -> rooms.get(o.room)).sum();
    }

    double meanPoints() {
        fail(points.isEmpty(), new ArithmeticException());
        return (double) points.stream().mapToInt(p -> p).sum() / (double) points.size();
    }
}
