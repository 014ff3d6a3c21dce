import java.util.ArrayList;
import java.util.Comparator;
import java.util.List;
import java.util.Random;
import java.util.TreeMap;
import java.util.function.Consumer;
import java.util.function.Function;
import java.util.function.Supplier;
import java.util.stream.Collectors;

/**
 * All promises: long runs of calls, by a seed of their own each, answered by the class and by the plain model. Now and
 * then all seats and queues are compared too, at an object made anew by the same calls: no object is asked more than it
 * has to answer.
 */
public final class PlainModelTest {
    private static final int RUNS = 1500;
    private static final int CALLS = 512;
    /** Behind so many calls there is room for those that look at six offers with ten pupils each. */
    private static final int MOST_CALLS_BEFORE_A_LOOK = 330;
    private static final int OFFERS_FOR_A_LOOK = 6;
    private static final char[] FIELDS = {'r', 'm', 'x'};
    private static final TreeMap<String, Integer> SEEN = new TreeMap<>();

    private final int run;
    private final Random random;
    private final Classfederation asked = new Classfederation();
    private final PlainModel model = new PlainModel();
    private final StringBuilder told = new StringBuilder();
    private final List<Consumer<Classfederation>> calls = new ArrayList<>();
    /** One of so many numbers is none of those that are there; in some runs one of a few. */
    private final int oddOne;

    private PlainModelTest(int run) {
        this.run = run;
        this.random = new Random(run);
        this.oddOne = run % 10 == 0 ? 4 : 40;
    }

    public static void main(String[] args) {
        for (int run = 0; run < RUNS && Due.wrongs() == 0; run++) {
            new PlainModelTest(run).play();
        }
        System.out.println(SEEN);
        Due.end();
    }

    private void play() {
        setUp();
        while (calls.size() < CALLS && Due.wrongs() == 0) {
            if (random.nextInt(3) == 0) {
                change();
            } else if (random.nextInt(2) == 0) {
                bidOrSettle();
            } else {
                ask();
            }
        }
        if (Due.wrongs() != 0) {
            System.out.println("run " + run + ":\n" + told);
        }
    }

    private void setUp() {
        int[] most = {1 + random.nextInt(3), 1 + random.nextInt(6), 1 + random.nextInt(10), 1 + random.nextInt(12)};
        for (int i = 0; i < most[0]; i++) {
            room(1 + random.nextInt(random.nextInt(3) == 0 ? 6 : 2));
        }
        for (int i = 0; i < most[1]; i++) {
            exam();
        }
        for (int i = 0; i < most[2]; i++) {
            pupil();
        }
        for (int i = 0; i < most[3]; i++) {
            offer(random.nextInt(most[1]), random.nextInt(6), random.nextInt(most[0]), random.nextInt(4) == 0);
        }
        for (int pupil = 0; pupil < most[2]; pupil++) {
            for (int exam = 0; exam < most[1]; exam++) {
                if (random.nextInt(8) != 0) {
                    write(model.owners.get('r'), pupil, exam, 'r', 1);
                }
                if (random.nextInt(3) == 0) {
                    write(model.owners.get('m'), pupil, exam, 'm', random.nextInt(70));
                }
            }
        }
        for (int store = 0; store < 3; store++) {
            sync(store, (store + 1) % 3);
            sync(store, (store + 2) % 3);
        }
    }

    /** Mostly a number below the bound, now and then one that is none. */
    private int upTo(int bound) {
        if (random.nextInt(oddOne) == 0) {
            int[] odd = {-1, bound, bound + 1, Integer.MAX_VALUE, Integer.MIN_VALUE};
            return odd[random.nextInt(odd.length)];
        }
        return bound > 0 ? random.nextInt(bound) : 0;
    }

    private int aPupil() {
        return upTo(model.points.size());
    }

    private int anExam() {
        return upTo(model.exams);
    }

    private int anOffer() {
        return upTo(model.offers.size());
    }

    private char aField() {
        return random.nextInt(oddOne) == 0 ? 'q' : FIELDS[random.nextInt(3)];
    }

    private int aValue(char field) {
        if (random.nextInt(oddOne) == 0) {
            return random.nextInt(300) - 100;
        }
        if (field == 'r') {
            return random.nextInt(4) == 0 ? 0 : 1;
        }
        return field == 'm' ? random.nextInt(102) - 1 : random.nextInt(61);
    }

    private void bidOrSettle() {
        int pupil = aPupil();
        int offer = anOffer();
        switch (random.nextInt(12)) {
            case 0 -> same("settle()", Classfederation::settle, model::settle);
            case 1 -> same("unbid(" + pupil + ", " + offer + ")", x -> x.unbid(pupil, offer),
                    () -> model.unbid(pupil, offer));
            default -> {
                int points = random.nextInt(oddOne) == 0 ? upTo(101) : 1 + random.nextInt(random.nextBoolean() ? 12 : 60);
                same("bid(" + pupil + ", " + offer + ", " + points + ")", x -> x.bid(pupil, offer, points),
                        () -> model.bid(pupil, offer, points));
            }
        }
    }

    private void change() {
        int pupil = aPupil();
        int exam = anExam();
        int offer = anOffer();
        int slot = upTo(6);
        char field = aField();
        int store = upTo(3);
        switch (random.nextInt(20)) {
            case 0 -> addOne();
            case 1 -> offer(exam, slot, upTo(model.rooms.size()), random.nextBoolean());
            case 2, 3, 4, 5 -> {
                int holder = random.nextInt(3) == 0 || model.seats.isEmpty() ? pupil : someHolder();
                int held = holder >= 0 && random.nextInt(5) != 0 ? someOfferOf(holder, offer) : offer;
                same("giveUp(" + holder + ", " + held + ")", x -> x.giveUp(holder, held),
                        () -> model.giveUp(holder, held));
            }
            case 6, 7 -> move(offer, slot);
            case 8 -> moveWhereOneLoses(offer, slot);
            case 9, 10, 11 -> write(store, pupil, exam, field, aValue(field));
            case 12, 13, 14, 15, 16 -> sync(store, upTo(3));
            case 17 -> same("setOwner(" + field + ", " + store + ")", x -> x.setOwner(field, store),
                    () -> model.setOwner(field, store));
            default -> {
                // A slot that is sat early leaves little to happen there.
                if (calls.size() > random.nextInt(CALLS)) {
                    same("sit(" + slot + ")", x -> x.sit(slot), () -> model.sit(slot));
                }
            }
        }
    }

    private void addOne() {
        switch (random.nextInt(3)) {
            case 0 -> room(1 + upTo(6));
            case 1 -> exam();
            default -> pupil();
        }
    }

    private void move(int offer, int slot) {
        same("move(" + offer + ", " + slot + ")", x -> x.move(offer, slot), () -> model.move(offer, slot));
    }

    /** An offer goes to a slot where one who has a seat of it has another one, if there is such a one. */
    private void moveWhereOneLoses(int offer, int slot) {
        List<int[]> losing = new ArrayList<>();
        for (PlainModel.Seat seat : model.seats) {
            for (PlainModel.Seat other : model.seats) {
                if (seat.pupil == other.pupil && seat.offer.room != other.offer.room) {
                    losing.add(new int[] {model.offers.indexOf(seat.offer), other.offer.slot});
                }
            }
        }
        int[] chosen = losing.isEmpty() ? new int[] {offer, slot} : losing.get(random.nextInt(losing.size()));
        move(chosen[0], chosen[1]);
    }

    private int someHolder() {
        return model.seats.get(random.nextInt(model.seats.size())).pupil;
    }

    private int someOfferOf(int pupil, int otherwise) {
        for (PlainModel.Seat seat : model.seats) {
            if (seat.pupil == pupil && random.nextBoolean()) {
                return model.offers.indexOf(seat.offer);
            }
        }
        return otherwise;
    }

    private void ask() {
        int pupil = aPupil();
        int exam = anExam();
        int offer = anOffer();
        int slot = upTo(6);
        int index = upTo(4);
        int store = upTo(3);
        char field = aField();
        boolean isResit = random.nextBoolean();
        String pupilExam = "(" + pupil + ", " + exam + ", " + isResit + ")";
        switch (random.nextInt(23)) {
            case 0 -> same("bids()", Classfederation::bids, model.told::size);
            case 1 -> same("rounds()", Classfederation::rounds, () -> model.rounds);
            case 2 -> same("points(" + pupil + ")", x -> x.points(pupil), () -> model.pointsOf(pupil));
            case 3 -> same("seat" + pupilExam, x -> x.seat(pupil, exam, isResit),
                    () -> model.seat(pupil, exam, isResit));
            case 4 -> same("at(" + pupil + ", " + slot + ")", x -> x.at(pupil, slot), () -> model.at(pupil, slot));
            case 5 -> same("holders(" + offer + ")", x -> x.holders(offer), () -> model.holders(offer));
            case 6 -> same("holder(" + offer + ", " + index + ")", x -> x.holder(offer, index),
                    () -> model.holder(offer, index));
            case 7 -> same("paid(" + pupil + ", " + offer + ")", x -> x.paid(pupil, offer),
                    () -> model.paid(pupil, offer));
            case 8 -> same("waiting(" + offer + ")", x -> x.waiting(offer), () -> model.waiting(offer));
            case 9, 10 -> same("waiter(" + offer + ", " + index + ")", x -> x.waiter(offer, index),
                    () -> model.waiter(offer, index));
            case 11 -> same("slotOf(" + offer + ")", x -> x.slotOf(offer), () -> model.slotOf(offer));
            case 12 -> same("refunds()", Classfederation::refunds, () -> model.refunds);
            case 13 -> same("read(" + store + ", " + pupil + ", " + exam + ", " + field + ")",
                    x -> x.read(store, pupil, exam, field), () -> model.read(store, pupil, exam, field));
            case 14 -> same("owner(" + field + ")", x -> x.owner(field), () -> model.owner(field));
            case 15 -> same("apart(" + field + ")", x -> x.apart(field), () -> model.apart(field));
            case 16 -> same("maySit" + pupilExam, x -> x.maySit(pupil, exam), () -> model.maySit(pupil, exam));
            case 17 -> same("isOpen" + pupilExam, x -> x.isOpen(pupil, exam), () -> model.isOpen(pupil, exam));
            case 18 -> same("hasSat" + pupilExam, x -> x.hasSat(pupil, exam, isResit),
                    () -> model.hasSat(pupil, exam, isResit));
            case 19 -> same("more(" + pupil + ", " + slot + ")", x -> x.more(pupil, slot),
                    () -> model.more(pupil, slot));
            case 20 -> same("isTrue()", Classfederation::isTrue, () -> true);
            case 21 -> same("takenShare()", Classfederation::takenShare, model::takenShare);
            default -> same("meanPoints()", Classfederation::meanPoints, model::meanPoints);
        }
    }

    private void room(int seats) {
        same("room(" + seats + ")", x -> x.room(seats), () -> model.room(seats));
    }

    private void exam() {
        same("exam()", Classfederation::exam, model::exam);
    }

    private void pupil() {
        same("pupil()", Classfederation::pupil, model::pupil);
    }

    private void offer(int exam, int slot, int room, boolean isResit) {
        same("offer(" + exam + ", " + slot + ", " + room + ", " + isResit + ")",
                x -> x.offer(exam, slot, room, isResit), () -> model.offer(exam, slot, room, isResit));
    }

    private void write(int store, int pupil, int exam, char field, int value) {
        same("write(" + store + ", " + pupil + ", " + exam + ", " + field + ", " + value + ")",
                x -> x.write(store, pupil, exam, field, value), () -> model.write(store, pupil, exam, field, value));
    }

    private void sync(int from, int to) {
        same("sync(" + from + ", " + to + ")", x -> x.sync(from, to), () -> model.sync(from, to));
    }

    private void same(String call, Function<Classfederation, Object> got, Supplier<Object> want) {
        String answer = answerOf(() -> got.apply(asked));
        calls.add(x -> answerOf(() -> got.apply(x)));
        told.append(call).append(" = ").append(answer).append('\n');
        String where = "run " + run + ", call " + calls.size() + ": " + call;
        Due.same(where, answer, answerOf(want));
        if (calls.size() <= MOST_CALLS_BEFORE_A_LOOK && random.nextInt(8) == 0) {
            compareSeats(where);
        }
        SEEN.merge(call.substring(0, call.indexOf('(')) + kindOf(answer), 1, Integer::sum);
    }

    private void compareSeats(String where) {
        for (int first = 0; first < 12; first += OFFERS_FOR_A_LOOK) {
            int last = Math.min(first + OFFERS_FOR_A_LOOK, model.offers.size());
            Due.same("seats behind " + where, seatsByClass(madeAnew(), first, last), seatsByModel(first, last));
        }
    }

    private Classfederation madeAnew() {
        Classfederation x = new Classfederation();
        calls.forEach(call -> call.accept(x));
        return x;
    }

    private static String kindOf(String answer) {
        if (Character.isUpperCase(answer.charAt(0))) {
            return " " + answer;
        }
        if (answer.equals("true") || answer.equals("false")) {
            return " " + answer;
        }
        return answer.startsWith("0") || answer.startsWith("-1") ? " 0 or -1" : " 1 or more";
    }

    /** Who has which points, and seats and places in the queues of some offers, as the class tells it. */
    private String seatsByClass(Classfederation x, int first, int last) {
        StringBuilder text = new StringBuilder();
        text.append(x.isTrue()).append(' ').append(x.refunds()).append(' ').append(x.bids()).append(' ').append(x.rounds());
        for (int pupil = 0; pupil < model.points.size(); pupil++) {
            text.append(' ').append(x.points(pupil));
        }
        for (int offer = first; offer < last; offer++) {
            text.append("\n").append(x.slotOf(offer)).append(' ').append(Made.holders(x, offer));
            text.append(" + ").append(Made.waiters(x, offer));
        }
        return text.toString();
    }

    private String seatsByModel(int first, int last) {
        StringBuilder text = new StringBuilder();
        text.append("true ").append(model.refunds).append(' ').append(model.told.size()).append(' ').append(model.rounds);
        model.points.forEach(points -> text.append(' ').append(points));
        for (int i = first; i < last; i++) {
            PlainModel.Offer offer = model.offers.get(i);
            text.append("\n").append(offer.slot).append(' ');
            text.append(model.seats.stream().filter(s -> s.offer == offer).sorted(Comparator.comparingInt(s -> s.pupil))
                    .map(s -> s.pupil + ":" + s.paid).collect(Collectors.joining(" ")));
            text.append(" + ");
            text.append(offer.queue.stream().map(b -> "" + b.pupil()).collect(Collectors.joining(" ")));
        }
        return text.toString();
    }

    private static String answerOf(Supplier<Object> call) {
        try {
            return String.valueOf(call.get());
        } catch (RuntimeException e) {
            return e.getClass().getSimpleName();
        }
    }
}
