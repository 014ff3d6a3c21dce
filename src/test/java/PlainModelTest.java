import java.util.Comparator;
import java.util.Random;
import java.util.TreeMap;
import java.util.function.Supplier;

/** All promises: long runs of calls, by a seed of their own each, answered by the class and by the plain model. */
public final class PlainModelTest {
    private static final int RUNS = 1500;
    private static final int CALLS = 512;
    private static final char[] FIELDS = {'r', 'm', 'x'};
    private static final TreeMap<String, Integer> SEEN = new TreeMap<>();

    private final int run;
    private final Random random;
    private final Classfederation x = new Classfederation();
    private final PlainModel model = new PlainModel();
    private final StringBuilder told = new StringBuilder();
    private int made;

    private PlainModelTest(int run) {
        this.run = run;
        this.random = new Random(run);
    }

    public static void main(String[] args) {
        for (int run = 0; run < RUNS && Due.wrongs() == 0; run++) {
            new PlainModelTest(run).play();
        }
        System.out.println(SEEN);
        Due.end();
    }

    private void play() {
        setUp();
        while (made < CALLS && Due.wrongs() == 0) {
            if (random.nextInt(3) == 0) {
                change();
            } else if (random.nextInt(2) == 0) {
                bidOrSettle();
            } else {
                ask();
            }
        }
        if (Due.wrongs() != 0) {
            System.out.println("run " + run + ":\n" + told);
        }
    }

    private void setUp() {
        int[] most = {1 + random.nextInt(3), 1 + random.nextInt(6), 1 + random.nextInt(10), 1 + random.nextInt(12)};
        for (int i = 0; i < most[0]; i++) {
            room(1 + random.nextInt(random.nextInt(3) == 0 ? 6 : 2));
        }
        for (int i = 0; i < most[1]; i++) {
            exam();
        }
        for (int i = 0; i < most[2]; i++) {
            pupil();
        }
        for (int i = 0; i < most[3]; i++) {
            offer(random.nextInt(most[1]), random.nextInt(6), random.nextInt(most[0]), random.nextInt(4) == 0);
        }
        for (int pupil = 0; pupil < most[2]; pupil++) {
            for (int exam = 0; exam < most[1]; exam++) {
                if (random.nextInt(8) != 0) {
                    write(model.owners.get('r'), pupil, exam, 'r', 1);
                }
                if (random.nextInt(3) == 0) {
                    write(model.owners.get('m'), pupil, exam, 'm', random.nextInt(70));
                }
            }
        }
        for (int store = 0; store < 3; store++) {
            sync(store, (store + 1) % 3);
            sync(store, (store + 2) % 3);
        }
    }

    /** Mostly a number below the bound, now and then one that is none. */
    private int upTo(int bound) {
        if (random.nextInt(40) == 0) {
            int[] odd = {-1, bound, bound + 1, Integer.MAX_VALUE, Integer.MIN_VALUE};
            return odd[random.nextInt(odd.length)];
        }
        return bound > 0 ? random.nextInt(bound) : 0;
    }

    private int aPupil() {
        return upTo(model.points.size());
    }

    private int anExam() {
        return upTo(model.exams);
    }

    private int anOffer() {
        return upTo(model.offers.size());
    }

    private char aField() {
        return random.nextInt(40) == 0 ? 'q' : FIELDS[random.nextInt(3)];
    }

    private int aValue(char field) {
        if (random.nextInt(40) == 0) {
            return random.nextInt(300) - 100;
        }
        if (field == 'r') {
            return random.nextInt(4) == 0 ? 0 : 1;
        }
        return field == 'm' ? random.nextInt(102) - 1 : random.nextInt(61);
    }

    private void bidOrSettle() {
        int pupil = aPupil();
        int offer = anOffer();
        switch (random.nextInt(12)) {
            case 0 -> same("settle()", x::settle, model::settle);
            case 1 -> same("unbid(" + pupil + ", " + offer + ")", () -> x.unbid(pupil, offer),
                    () -> model.unbid(pupil, offer));
            default -> {
                int points = random.nextInt(40) == 0 ? upTo(101) : 1 + random.nextInt(random.nextBoolean() ? 12 : 60);
                same("bid(" + pupil + ", " + offer + ", " + points + ")", () -> x.bid(pupil, offer, points),
                        () -> model.bid(pupil, offer, points));
            }
        }
    }

    private void change() {
        int pupil = aPupil();
        int exam = anExam();
        int offer = anOffer();
        int slot = upTo(6);
        char field = aField();
        int store = upTo(3);
        switch (random.nextInt(20)) {
            case 0 -> addOne();
            case 1 -> offer(exam, slot, upTo(model.rooms.size()), random.nextBoolean());
            case 2, 3, 4, 5 -> {
                int holder = random.nextInt(3) == 0 || model.seats.isEmpty() ? pupil : someHolder();
                int held = holder >= 0 && random.nextInt(5) != 0 ? someOfferOf(holder, offer) : offer;
                same("giveUp(" + holder + ", " + held + ")", () -> x.giveUp(holder, held),
                        () -> model.giveUp(holder, held));
            }
            case 6, 7, 8 -> same("move(" + offer + ", " + slot + ")", () -> x.move(offer, slot),
                    () -> model.move(offer, slot));
            case 9, 10, 11 -> write(store, pupil, exam, field, aValue(field));
            case 12, 13, 14, 15, 16 -> sync(store, upTo(3));
            case 17 -> same("setOwner(" + field + ", " + store + ")", () -> x.setOwner(field, store),
                    () -> model.setOwner(field, store));
            default -> {
                // A slot that is sat early leaves little to happen there.
                if (made > random.nextInt(CALLS)) {
                    same("sit(" + slot + ")", () -> x.sit(slot), () -> model.sit(slot));
                }
            }
        }
    }

    private void addOne() {
        switch (random.nextInt(3)) {
            case 0 -> room(1 + upTo(6));
            case 1 -> exam();
            default -> pupil();
        }
    }

    private int someHolder() {
        return model.seats.get(random.nextInt(model.seats.size())).pupil;
    }

    private int someOfferOf(int pupil, int otherwise) {
        for (PlainModel.Seat seat : model.seats) {
            if (seat.pupil == pupil && random.nextBoolean()) {
                return model.offers.indexOf(seat.offer);
            }
        }
        return otherwise;
    }

    private void ask() {
        int pupil = aPupil();
        int exam = anExam();
        int offer = anOffer();
        int slot = upTo(6);
        int index = upTo(4);
        int store = upTo(3);
        char field = aField();
        boolean isResit = random.nextBoolean();
        String pupilExam = "(" + pupil + ", " + exam + ", " + isResit + ")";
        switch (random.nextInt(22)) {
            case 0 -> same("bids()", x::bids, model.told::size);
            case 1 -> same("rounds()", x::rounds, () -> model.rounds);
            case 2 -> same("points(" + pupil + ")", () -> x.points(pupil), () -> model.pointsOf(pupil));
            case 3 -> same("seat" + pupilExam, () -> x.seat(pupil, exam, isResit),
                    () -> model.seat(pupil, exam, isResit));
            case 4 -> same("at(" + pupil + ", " + slot + ")", () -> x.at(pupil, slot), () -> model.at(pupil, slot));
            case 5 -> same("holders(" + offer + ")", () -> x.holders(offer), () -> model.holders(offer));
            case 6 -> same("holder(" + offer + ", " + index + ")", () -> x.holder(offer, index),
                    () -> model.holder(offer, index));
            case 7 -> same("paid(" + pupil + ", " + offer + ")", () -> x.paid(pupil, offer),
                    () -> model.paid(pupil, offer));
            case 8 -> same("waiting(" + offer + ")", () -> x.waiting(offer), () -> model.waiting(offer));
            case 9, 10 -> same("waiter(" + offer + ", " + index + ")", () -> x.waiter(offer, index),
                    () -> model.waiter(offer, index));
            case 11 -> same("slotOf(" + offer + ")", () -> x.slotOf(offer), () -> model.slotOf(offer));
            case 12 -> same("refunds()", x::refunds, () -> model.refunds);
            case 13 -> same("read(" + store + ", " + pupil + ", " + exam + ", " + field + ")",
                    () -> x.read(store, pupil, exam, field), () -> model.read(store, pupil, exam, field));
            case 14 -> same("owner(" + field + ")", () -> x.owner(field), () -> model.owner(field));
            case 15 -> same("apart(" + field + ")", () -> x.apart(field), () -> model.apart(field));
            case 16 -> same("maySit" + pupilExam, () -> x.maySit(pupil, exam), () -> model.maySit(pupil, exam));
            case 17 -> same("isOpen" + pupilExam, () -> x.isOpen(pupil, exam), () -> model.isOpen(pupil, exam));
            case 18 -> same("hasSat" + pupilExam, () -> x.hasSat(pupil, exam, isResit),
                    () -> model.hasSat(pupil, exam, isResit));
            case 19 -> same("more(" + pupil + ", " + slot + ")", () -> x.more(pupil, slot),
                    () -> model.more(pupil, slot));
            case 20 -> same("takenShare()", x::takenShare, model::takenShare);
            default -> same("meanPoints()", x::meanPoints, model::meanPoints);
        }
    }

    private void room(int seats) {
        same("room(" + seats + ")", () -> x.room(seats), () -> model.room(seats));
    }

    private void exam() {
        same("exam()", x::exam, model::exam);
    }

    private void pupil() {
        same("pupil()", x::pupil, model::pupil);
    }

    private void offer(int exam, int slot, int room, boolean isResit) {
        same("offer(" + exam + ", " + slot + ", " + room + ", " + isResit + ")",
                () -> x.offer(exam, slot, room, isResit), () -> model.offer(exam, slot, room, isResit));
    }

    private void write(int store, int pupil, int exam, char field, int value) {
        same("write(" + store + ", " + pupil + ", " + exam + ", " + field + ", " + value + ")",
                () -> x.write(store, pupil, exam, field, value), () -> model.write(store, pupil, exam, field, value));
    }

    private void sync(int from, int to) {
        same("sync(" + from + ", " + to + ")", () -> x.sync(from, to), () -> model.sync(from, to));
    }

    private void same(String call, Supplier<Object> got, Supplier<Object> want) {
        String answer = answerOf(got);
        made++;
        told.append(call).append(" = ").append(answer).append('\n');
        Due.same("run " + run + ", call " + made + ": " + call, answer, answerOf(want));
        Due.isSo("run " + run + ", call " + made + ": isTrue()", x.isTrue());
        Due.same("run " + run + ", seats after call " + made + ": " + call, seatsByClass(), seatsByModel());
        SEEN.merge(call.substring(0, call.indexOf('(')) + kindOf(answer), 1, Integer::sum);
    }

    private static String kindOf(String answer) {
        if (Character.isUpperCase(answer.charAt(0))) {
            return " " + answer;
        }
        if (answer.equals("true") || answer.equals("false")) {
            return " " + answer;
        }
        return answer.startsWith("0") || answer.startsWith("-1") ? " 0 or -1" : " 1 or more";
    }

    /** Who has which points, seats and places in queues, as the class tells it. */
    private String seatsByClass() {
        StringBuilder text = new StringBuilder();
        text.append(x.refunds()).append(' ').append(x.bids()).append(' ').append(x.rounds());
        for (int pupil = 0; pupil < model.points.size(); pupil++) {
            text.append(' ').append(x.points(pupil));
        }
        for (int offer = 0; offer < model.offers.size(); offer++) {
            text.append("\n").append(x.slotOf(offer));
            for (int i = 0; i < x.holders(offer); i++) {
                int pupil = x.holder(offer, i);
                text.append(' ').append(pupil).append(':').append(x.paid(pupil, offer));
            }
            for (int i = 0; i < x.waiting(offer); i++) {
                text.append(" +").append(x.waiter(offer, i));
            }
        }
        return text.toString();
    }

    private String seatsByModel() {
        StringBuilder text = new StringBuilder();
        text.append(model.refunds).append(' ').append(model.told.size()).append(' ').append(model.rounds);
        model.points.forEach(points -> text.append(' ').append(points));
        for (PlainModel.Offer offer : model.offers) {
            text.append("\n").append(offer.slot);
            model.seats.stream().filter(s -> s.offer == offer).sorted(Comparator.comparingInt(s -> s.pupil))
                    .forEach(s -> text.append(' ').append(s.pupil).append(':').append(s.paid));
            offer.queue.forEach(b -> text.append(" +").append(b.pupil()));
        }
        return text.toString();
    }

    private static String answerOf(Supplier<Object> call) {
        try {
            return String.valueOf(call.get());
        } catch (RuntimeException e) {
            return e.getClass().getSimpleName();
        }
    }
}
