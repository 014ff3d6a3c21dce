import java.util.NoSuchElementException;

/**
 * A school's exams over three stores of records, with a game of points by which pupils choose when to sit.
 * Everything is held in rows that the constructor makes, so that no call but a refused one makes an object.
 */
public final class Classfederation {
    private static final int MOST_ROOMS = 3;
    private static final int MOST_SEATS = 6;
    private static final int MOST_EXAMS = 6;
    private static final int MOST_PUPILS = 10;
    private static final int MOST_OFFERS = 12;
    private static final int MOST_POINTS = 100;
    private static final int SLOTS = 6;
    private static final int STORES = 3;
    private static final int NONE = -1;

    private final Records records;
    private final Round round;
    private final Offer[] offers;
    private final int[] seatsOfRoom;
    private final int[] pointsLeft;
    /** By pupil, what was paid for seats given up and did not come back. */
    private final int[] forfeited;
    private final boolean[] slotWasSat;
    private int roomCount;
    private int examCount;
    private int pupilCount;
    private int offerCount;
    private int settledRounds;
    private int refundSum;

    public Classfederation() {
        records = new Records();
        round = new Round();
        offers = new Offer[MOST_OFFERS];
        for (int i = 0; i < MOST_OFFERS; i++) {
            offers[i] = new Offer();
        }
        seatsOfRoom = new int[MOST_ROOMS];
        pointsLeft = new int[MOST_PUPILS];
        forfeited = new int[MOST_PUPILS];
        slotWasSat = new boolean[SLOTS];
    }

    // Rooms, exams, pupils, offers

    public int room(int seats) throws IllegalArgumentException, IllegalStateException {
        if (seats < 1 || seats > MOST_SEATS) {
            throw new IllegalArgumentException("seats out of range");
        }
        if (roomCount >= MOST_ROOMS) {
            throw new IllegalStateException("no more rooms");
        }
        seatsOfRoom[roomCount] = seats;
        roomCount++;
        return roomCount - 1;
    }

    public int exam() throws IllegalStateException {
        if (examCount >= MOST_EXAMS) {
            throw new IllegalStateException("no more exams");
        }
        examCount++;
        return examCount - 1;
    }

    public int pupil() throws IllegalStateException {
        if (pupilCount >= MOST_PUPILS) {
            throw new IllegalStateException("no more pupils");
        }
        pointsLeft[pupilCount] = MOST_POINTS;
        pupilCount++;
        return pupilCount - 1;
    }

    public int offer(int exam, int slot, int room, boolean isResit)
            throws IndexOutOfBoundsException, IllegalArgumentException, UnsupportedOperationException,
            IllegalStateException {
        needExam(exam);
        if (room < 0 || room >= roomCount) {
            throw new IndexOutOfBoundsException("no such room");
        }
        needSlot(slot);
        if (slotWasSat[slot] || isRoomTaken(room, slot)) {
            throw new UnsupportedOperationException("room taken or slot sat");
        }
        if (offerCount >= MOST_OFFERS) {
            throw new IllegalStateException("no more offers");
        }
        offers[offerCount].open(exam, slot, room, seatsOfRoom[room], isResit);
        offerCount++;
        return offerCount - 1;
    }

    public int slotOf(int offer) throws IndexOutOfBoundsException {
        return offerNumbered(offer).slot;
    }

    // Rounds

    public int bid(int pupil, int offer, int points)
            throws IndexOutOfBoundsException, IllegalArgumentException, UnsupportedOperationException {
        needPupil(pupil);
        Offer wanted = offerNumbered(offer);
        if (points < 1 || points > MOST_POINTS) {
            throw new IllegalArgumentException("points out of range");
        }
        int sum = round.sumOf(pupil) - round.pointsBid(pupil, offer) + points;
        if (isClosed(wanted) || sum > pointsLeft[pupil]) {
            throw new UnsupportedOperationException("offer closed or too few points");
        }
        round.takeOut(pupil, offer);
        round.tell(pupil, offer, points);
        return sum;
    }

    public int unbid(int pupil, int offer) throws IndexOutOfBoundsException, NoSuchElementException {
        needPupil(pupil);
        needOffer(offer);
        int points = round.pointsBid(pupil, offer);
        if (points == 0) {
            throw new NoSuchElementException("no such bid");
        }
        round.takeOut(pupil, offer);
        return points;
    }

    public int bids() {
        return round.count;
    }

    public int settle() {
        int given = 0;
        for (int i = 0; i < round.count; i++) {
            if (isSeatWon(round.pupils[i], offers[round.offers[i]], round.points[i])) {
                given++;
            }
        }
        round.count = 0;
        settledRounds++;
        return given;
    }

    public int rounds() {
        return settledRounds;
    }

    public int points(int pupil) throws IndexOutOfBoundsException {
        needPupil(pupil);
        return pointsLeft[pupil];
    }

    // Seats and those who wait

    public int seat(int pupil, int exam, boolean isResit) throws IndexOutOfBoundsException, NoSuchElementException {
        needPupil(pupil);
        needExam(exam);
        int offer = offerHeldFor(pupil, exam, isResit);
        if (offer == NONE) {
            throw new NoSuchElementException("no seat of this exam");
        }
        return offer;
    }

    public int at(int pupil, int slot)
            throws IndexOutOfBoundsException, IllegalArgumentException, NoSuchElementException {
        needPupil(pupil);
        needSlot(slot);
        return examHeldAt(pupil, slot);
    }

    public int holders(int offer) throws IndexOutOfBoundsException {
        return offerNumbered(offer).countTaken();
    }

    public int holder(int offer, int index) throws IndexOutOfBoundsException, NoSuchElementException {
        int pupil = offerNumbered(offer).pupilSeated(index);
        if (pupil == NONE) {
            throw new NoSuchElementException("no such holder");
        }
        return pupil;
    }

    public int paid(int pupil, int offer) throws IndexOutOfBoundsException, NoSuchElementException {
        needPupil(pupil);
        Offer held = offerNumbered(offer);
        if (!held.hasSeated(pupil)) {
            throw new NoSuchElementException("no seat of this offer");
        }
        return held.paidBy[pupil];
    }

    public int waiting(int offer) throws IndexOutOfBoundsException {
        return offerNumbered(offer).waiterCount;
    }

    public int waiter(int offer, int index) throws IndexOutOfBoundsException, NoSuchElementException {
        Offer wanted = offerNumbered(offer);
        if (index < 0 || index >= wanted.waiterCount) {
            throw new NoSuchElementException("no such waiter");
        }
        return wanted.waiters[index];
    }

    public int giveUp(int pupil, int offer) throws IndexOutOfBoundsException, UnsupportedOperationException {
        needPupil(pupil);
        Offer held = offerNumbered(offer);
        if (isClosed(held) || !held.hasSeated(pupil)) {
            throw new UnsupportedOperationException("offer closed or no seat of it");
        }
        int paid = held.unseat(pupil);
        int back = paid / 2;
        payBack(pupil, back);
        forfeited[pupil] += paid - back;
        return moveOneUp(held);
    }

    public int move(int offer, int slot)
            throws IndexOutOfBoundsException, IllegalArgumentException, UnsupportedOperationException {
        Offer moved = offerNumbered(offer);
        needSlot(slot);
        if (isClosed(moved) || slotWasSat[slot] || isRoomTaken(moved.room, slot)) {
            // Its own slot counts as taken by itself, so the same slot is refused here too.
            throw new UnsupportedOperationException("offer closed, or slot sat or taken");
        }
        int lost = 0;
        for (int pupil = 0; pupil < pupilCount; pupil++) {
            if (moved.hasSeated(pupil) && isSeatLostByMove(pupil, moved, slot)) {
                lost++;
            }
        }
        moved.slot = slot;
        int movedUp = 0;
        while (movedUp < moved.seats && moveOneUp(moved) != NONE) {
            movedUp++;
        }
        return lost;
    }

    public int refunds() {
        return refundSum;
    }

    // Records

    public int write(int store, int pupil, int exam, char field, int value)
            throws IndexOutOfBoundsException, IllegalArgumentException {
        needStore(store);
        needPupil(pupil);
        needExam(exam);
        int number = fieldNumbered(field);
        if (!Records.isInRange(number, value)) {
            throw new IllegalArgumentException("value out of range");
        }
        int before = records.valueIn(store, number, pupil, exam);
        records.put(store, number, pupil, exam, value);
        return before;
    }

    public int read(int store, int pupil, int exam, char field)
            throws IndexOutOfBoundsException, IllegalArgumentException {
        needStore(store);
        needPupil(pupil);
        needExam(exam);
        return records.valueIn(store, fieldNumbered(field), pupil, exam);
    }

    public int sync(int from, int to) throws IndexOutOfBoundsException, IllegalArgumentException {
        needStore(from);
        needStore(to);
        if (from == to) {
            throw new IllegalArgumentException("a store is not synced from itself");
        }
        return records.copyOwned(from, to);
    }

    public int owner(char field) throws IllegalArgumentException {
        return records.owners[fieldNumbered(field)];
    }

    public int setOwner(char field, int store)
            throws IllegalArgumentException, IndexOutOfBoundsException, UnsupportedOperationException {
        int number = fieldNumbered(field);
        needStore(store);
        int before = records.owners[number];
        if (!records.areSame(number, before, store)) {
            throw new UnsupportedOperationException("the stores are not the same in this field");
        }
        records.owners[number] = store;
        return before;
    }

    public int apart(char field) throws IllegalArgumentException {
        return records.countApart(fieldNumbered(field));
    }

    public boolean maySit(int pupil, int exam) throws IndexOutOfBoundsException {
        needPupil(pupil);
        needExam(exam);
        return records.isRightGiven(pupil, exam);
    }

    public boolean isOpen(int pupil, int exam) throws IndexOutOfBoundsException {
        needPupil(pupil);
        needExam(exam);
        return records.isResitOpen(pupil, exam);
    }

    // Sitting

    public int sit(int slot) throws IllegalArgumentException, UnsupportedOperationException {
        needSlot(slot);
        if (slotWasSat[slot]) {
            throw new UnsupportedOperationException("the slot was sat");
        }
        int sat = 0;
        for (int i = 0; i < offerCount; i++) {
            if (offers[i].slot == slot) {
                sat += letSit(offers[i]);
            }
        }
        slotWasSat[slot] = true;
        return sat;
    }

    public boolean hasSat(int pupil, int exam, boolean isResit) throws IndexOutOfBoundsException {
        needPupil(pupil);
        needExam(exam);
        // Who was kept out lost the seat, and closed offers give none: a seat at a slot that was sat is one that was sat.
        int offer = offerHeldFor(pupil, exam, isResit);
        return offer != NONE && isClosed(offers[offer]);
    }

    public int more(int pupil, int slot)
            throws IndexOutOfBoundsException, IllegalArgumentException, NoSuchElementException {
        needPupil(pupil);
        needSlot(slot);
        return records.valueByOwner(Records.MINUTES, pupil, examHeldAt(pupil, slot));
    }

    // Figures of the whole school

    public float takenShare() throws ArithmeticException {
        if (offerCount == 0) {
            throw new ArithmeticException("no offers");
        }
        int taken = 0;
        int all = 0;
        for (int i = 0; i < offerCount; i++) {
            taken += offers[i].countTaken();
            all += offers[i].seats;
        }
        return (float) taken / (float) all;
    }

    public double meanPoints() throws ArithmeticException {
        if (pupilCount == 0) {
            throw new ArithmeticException("no pupils");
        }
        int sum = 0;
        for (int pupil = 0; pupil < pupilCount; pupil++) {
            sum += pointsLeft[pupil];
        }
        return (double) sum / (double) pupilCount;
    }

    public boolean isTrue() {
        for (int pupil = 0; pupil < pupilCount; pupil++) {
            if (hasSeatsThatClash(pupil) || !arePointsWhole(pupil)) {
                return false;
            }
        }
        for (int i = 0; i < offerCount; i++) {
            if (offers[i].countTaken() > offers[i].seats || offers[i].hasSeatedWaiter() || isRoomShared(i)) {
                return false;
            }
        }
        return true;
    }

    // What the calls need before they do anything

    private void needPupil(int pupil) throws IndexOutOfBoundsException {
        if (pupil < 0 || pupil >= pupilCount) {
            throw new IndexOutOfBoundsException("no such pupil");
        }
    }

    private void needExam(int exam) throws IndexOutOfBoundsException {
        if (exam < 0 || exam >= examCount) {
            throw new IndexOutOfBoundsException("no such exam");
        }
    }

    private void needOffer(int offer) throws IndexOutOfBoundsException {
        if (offer < 0 || offer >= offerCount) {
            throw new IndexOutOfBoundsException("no such offer");
        }
    }

    private Offer offerNumbered(int offer) throws IndexOutOfBoundsException {
        needOffer(offer);
        return offers[offer];
    }

    private static void needStore(int store) throws IndexOutOfBoundsException {
        if (store < 0 || store >= STORES) {
            throw new IndexOutOfBoundsException("no such store");
        }
    }

    private static void needSlot(int slot) throws IllegalArgumentException {
        if (slot < 0 || slot >= SLOTS) {
            throw new IllegalArgumentException("slot out of range");
        }
    }

    private static int fieldNumbered(char field) throws IllegalArgumentException {
        if (field == 'r') {
            return Records.RIGHT;
        }
        if (field == 'm') {
            return Records.MARK;
        }
        if (field == 'x') {
            return Records.MINUTES;
        }
        throw new IllegalArgumentException("no such field");
    }

    // What holds now

    private boolean isClosed(Offer offer) {
        return slotWasSat[offer.slot];
    }

    private boolean isRoomTaken(int room, int slot) {
        for (int i = 0; i < offerCount; i++) {
            if (offers[i].room == room && offers[i].slot == slot) {
                return true;
            }
        }
        return false;
    }

    private int offerHeldFor(int pupil, int exam, boolean isResit) {
        for (int i = 0; i < offerCount; i++) {
            if (offers[i].isOf(exam, isResit) && offers[i].hasSeated(pupil)) {
                return i;
            }
        }
        return NONE;
    }

    private int offerHeldAt(int pupil, int slot) {
        for (int i = 0; i < offerCount; i++) {
            if (offers[i].slot == slot && offers[i].hasSeated(pupil)) {
                return i;
            }
        }
        return NONE;
    }

    private int examHeldAt(int pupil, int slot) throws NoSuchElementException {
        int offer = offerHeldAt(pupil, slot);
        if (offer == NONE) {
            throw new NoSuchElementException("no exam at this slot");
        }
        return offers[offer].exam;
    }

    private boolean mayHaveSeat(int pupil, Offer offer) {
        if (!records.isRightGiven(pupil, offer.exam)) {
            return false;
        }
        if (offer.isResit) {
            return records.isResitOpen(pupil, offer.exam);
        }
        return records.valueByOwner(Records.MARK, pupil, offer.exam) == Records.NO_MARK;
    }

    /** All that a bid needs but a seat left, for those who bid and those who wait alike. */
    private boolean needsOnlySeat(int pupil, Offer offer, int points) {
        return !isClosed(offer)
                && pointsLeft[pupil] >= points
                && mayHaveSeat(pupil, offer)
                && offerHeldFor(pupil, offer.exam, offer.isResit) == NONE
                && offerHeldAt(pupil, offer.slot) == NONE;
    }

    // What changes seats and points

    private boolean isSeatWon(int pupil, Offer offer, int points) {
        if (!needsOnlySeat(pupil, offer, points)) {
            return false;
        }
        if (offer.isFull()) {
            offer.letWait(pupil, points);
            return false;
        }
        giveSeat(pupil, offer, points);
        return true;
    }

    private void giveSeat(int pupil, Offer offer, int points) {
        pointsLeft[pupil] -= points;
        offer.paidBy[pupil] = points;
        for (int i = 0; i < offerCount; i++) {
            if (offers[i].isOf(offer.exam, offer.isResit)) {
                offers[i].letWaitNoMore(pupil);
            }
        }
    }

    private void payBack(int pupil, int points) {
        pointsLeft[pupil] += points;
        refundSum += points;
    }

    private int moveOneUp(Offer offer) {
        if (offer.isFull()) {
            return NONE;
        }
        for (int i = 0; i < offer.waiterCount; i++) {
            int pupil = offer.waiters[i];
            int points = offer.waiterPoints[i];
            if (needsOnlySeat(pupil, offer, points)) {
                giveSeat(pupil, offer, points);
                return pupil;
            }
        }
        return NONE;
    }

    /** Asked while the offer is still at its old slot, so that a seat at the new one is another seat. */
    private boolean isSeatLostByMove(int pupil, Offer offer, int newSlot) {
        if (offerHeldAt(pupil, newSlot) != NONE) {
            payBack(pupil, offer.unseat(pupil));
            return true;
        }
        int back = offer.paidBy[pupil] / 2;
        offer.paidBy[pupil] -= back;
        payBack(pupil, back);
        return false;
    }

    private int letSit(Offer offer) {
        int sat = 0;
        for (int pupil = 0; pupil < pupilCount; pupil++) {
            if (!offer.hasSeated(pupil)) {
                continue;
            }
            if (records.isRightGiven(pupil, offer.exam)) {
                sat++;
            } else {
                payBack(pupil, offer.unseat(pupil));
            }
        }
        return sat;
    }

    // What isTrue checks

    private boolean hasSeatsThatClash(int pupil) {
        int slots = 0;
        int exams = 0;
        for (int i = 0; i < offerCount; i++) {
            if (!offers[i].hasSeated(pupil)) {
                continue;
            }
            int slot = 1 << offers[i].slot;
            int exam = 1 << (2 * offers[i].exam + (offers[i].isResit ? 1 : 0));
            if ((slots & slot) != 0 || (exams & exam) != 0) {
                return true;
            }
            slots |= slot;
            exams |= exam;
        }
        return false;
    }

    private boolean arePointsWhole(int pupil) {
        int sum = pointsLeft[pupil] + forfeited[pupil];
        for (int i = 0; i < offerCount; i++) {
            if (offers[i].hasSeated(pupil)) {
                sum += offers[i].paidBy[pupil];
            }
        }
        return sum == MOST_POINTS;
    }

    private boolean isRoomShared(int offer) {
        for (int i = 0; i < offerCount; i++) {
            if (i != offer && offers[i].room == offers[offer].room && offers[i].slot == offers[offer].slot) {
                return true;
            }
        }
        return false;
    }

    /** An exam at a slot in a room, with those who have a seat of it and those who wait for one. */
    private static final class Offer {
        private int exam;
        private int slot;
        private int room;
        private int seats;
        private boolean isResit;
        /** By pupil, the points paid for the seat, or NONE where the pupil has no seat. */
        private final int[] paidBy;
        private final int[] waiters;
        private final int[] waiterPoints;
        private int waiterCount;

        private Offer() {
            paidBy = new int[MOST_PUPILS];
            for (int pupil = 0; pupil < MOST_PUPILS; pupil++) {
                paidBy[pupil] = NONE;
            }
            waiters = new int[MOST_PUPILS];
            waiterPoints = new int[MOST_PUPILS];
        }

        private void open(int ofExam, int atSlot, int inRoom, int roomSeats, boolean asResit) {
            exam = ofExam;
            slot = atSlot;
            room = inRoom;
            seats = roomSeats;
            isResit = asResit;
        }

        private boolean isOf(int otherExam, boolean otherIsResit) {
            return exam == otherExam && isResit == otherIsResit;
        }

        private boolean hasSeated(int pupil) {
            return paidBy[pupil] != NONE;
        }

        private int countTaken() {
            int taken = 0;
            for (int pupil = 0; pupil < MOST_PUPILS; pupil++) {
                if (hasSeated(pupil)) {
                    taken++;
                }
            }
            return taken;
        }

        private boolean isFull() {
            return countTaken() >= seats;
        }

        private int pupilSeated(int index) {
            int before = 0;
            for (int pupil = 0; pupil < MOST_PUPILS; pupil++) {
                if (hasSeated(pupil)) {
                    if (before == index) {
                        return pupil;
                    }
                    before++;
                }
            }
            return NONE;
        }

        /** Takes the seat and answers what was paid for it. */
        private int unseat(int pupil) {
            int paid = paidBy[pupil];
            paidBy[pupil] = NONE;
            return paid;
        }

        private int placeInQueue(int pupil) {
            for (int i = 0; i < waiterCount; i++) {
                if (waiters[i] == pupil) {
                    return i;
                }
            }
            return NONE;
        }

        private void letWait(int pupil, int points) {
            if (placeInQueue(pupil) != NONE || waiterCount >= MOST_PUPILS) {
                return;
            }
            waiters[waiterCount] = pupil;
            waiterPoints[waiterCount] = points;
            waiterCount++;
        }

        private void letWaitNoMore(int pupil) {
            int place = placeInQueue(pupil);
            if (place == NONE) {
                return;
            }
            waiterCount--;
            for (int i = place; i < waiterCount; i++) {
                waiters[i] = waiters[i + 1];
                waiterPoints[i] = waiterPoints[i + 1];
            }
        }

        private boolean hasSeatedWaiter() {
            for (int i = 0; i < waiterCount; i++) {
                if (hasSeated(waiters[i])) {
                    return true;
                }
            }
            return false;
        }
    }

    /** The bids told for the round, kept in the order in which they are taken when it is settled. */
    private static final class Round {
        private static final int MOST_BIDS = MOST_PUPILS * MOST_OFFERS;

        private final int[] pupils;
        private final int[] offers;
        private final int[] points;
        private int count;

        private Round() {
            pupils = new int[MOST_BIDS];
            offers = new int[MOST_BIDS];
            points = new int[MOST_BIDS];
        }

        private int placeOf(int pupil, int offer) {
            for (int i = 0; i < count; i++) {
                if (pupils[i] == pupil && offers[i] == offer) {
                    return i;
                }
            }
            return NONE;
        }

        /** The points of a bid, 0 if there is none. */
        private int pointsBid(int pupil, int offer) {
            int place = placeOf(pupil, offer);
            return place == NONE ? 0 : points[place];
        }

        private int sumOf(int pupil) {
            int sum = 0;
            for (int i = 0; i < count; i++) {
                if (pupils[i] == pupil) {
                    sum += points[i];
                }
            }
            return sum;
        }

        /** Puts a bid behind all of as many points, since they were told earlier, and ahead of all of fewer. */
        private void tell(int pupil, int offer, int bidPoints) {
            if (count >= MOST_BIDS) {
                return;
            }
            int place = count;
            while (place > 0 && points[place - 1] < bidPoints) {
                pupils[place] = pupils[place - 1];
                offers[place] = offers[place - 1];
                points[place] = points[place - 1];
                place--;
            }
            pupils[place] = pupil;
            offers[place] = offer;
            points[place] = bidPoints;
            count++;
        }

        private void takeOut(int pupil, int offer) {
            int place = placeOf(pupil, offer);
            if (place == NONE) {
                return;
            }
            count--;
            for (int i = place; i < count; i++) {
                pupils[i] = pupils[i + 1];
                offers[i] = offers[i + 1];
                points[i] = points[i + 1];
            }
        }
    }

    /**
     * The three stores. A field of a pupil and exam that are not there yet cannot be written, so it is the same in all
     * stores: walks over all cells answer as walks over the pupils and exams that are there.
     */
    private static final class Records {
        private static final int RIGHT = 0;
        private static final int MARK = 1;
        private static final int MINUTES = 2;
        private static final int FIELDS = 3;
        private static final int CELLS = MOST_PUPILS * MOST_EXAMS;
        private static final int NO_MARK = -1;
        private static final int BEST_MARK = 100;
        private static final int BEST_MARK_FOR_RESIT = 49;
        private static final int MOST_MINUTES = 60;

        /** A row for each store and field, in it a cell for each pupil and exam. */
        private final int[][] values;
        private final int[] owners;

        private Records() {
            values = new int[STORES * FIELDS][CELLS];
            for (int store = 0; store < STORES; store++) {
                for (int cell = 0; cell < CELLS; cell++) {
                    values[rowOf(store, MARK)][cell] = NO_MARK;
                }
            }
            owners = new int[FIELDS];
            for (int field = 0; field < FIELDS; field++) {
                // The document gives the fields to the stores 0, 1, 2 in this very order.
                owners[field] = field;
            }
        }

        private static int rowOf(int store, int field) {
            return store * FIELDS + field;
        }

        private static int cellOf(int pupil, int exam) {
            return pupil * MOST_EXAMS + exam;
        }

        private static boolean isInRange(int field, int value) {
            if (field == RIGHT) {
                return value >= 0 && value <= 1;
            }
            if (field == MARK) {
                return value >= NO_MARK && value <= BEST_MARK;
            }
            return value >= 0 && value <= MOST_MINUTES;
        }

        private int valueIn(int store, int field, int pupil, int exam) {
            return values[rowOf(store, field)][cellOf(pupil, exam)];
        }

        private int valueByOwner(int field, int pupil, int exam) {
            return valueIn(owners[field], field, pupil, exam);
        }

        private void put(int store, int field, int pupil, int exam, int value) {
            values[rowOf(store, field)][cellOf(pupil, exam)] = value;
        }

        private int copyOwned(int from, int to) {
            int changed = 0;
            for (int field = 0; field < FIELDS; field++) {
                if (owners[field] == from) {
                    changed += copyRow(values[rowOf(from, field)], values[rowOf(to, field)]);
                }
            }
            return changed;
        }

        private static int copyRow(int[] source, int[] target) {
            int changed = 0;
            for (int cell = 0; cell < CELLS; cell++) {
                if (target[cell] != source[cell]) {
                    target[cell] = source[cell];
                    changed++;
                }
            }
            return changed;
        }

        private boolean areSame(int field, int storeA, int storeB) {
            for (int cell = 0; cell < CELLS; cell++) {
                if (values[rowOf(storeA, field)][cell] != values[rowOf(storeB, field)][cell]) {
                    return false;
                }
            }
            return true;
        }

        private boolean isAgreed(int field, int cell) {
            int value = values[rowOf(0, field)][cell];
            for (int store = 1; store < STORES; store++) {
                if (values[rowOf(store, field)][cell] != value) {
                    return false;
                }
            }
            return true;
        }

        private int countApart(int field) {
            int apart = 0;
            for (int cell = 0; cell < CELLS; cell++) {
                if (!isAgreed(field, cell)) {
                    apart++;
                }
            }
            return apart;
        }

        private boolean isRightGiven(int pupil, int exam) {
            int cell = cellOf(pupil, exam);
            return isAgreed(RIGHT, cell) && values[rowOf(owners[RIGHT], RIGHT)][cell] == 1;
        }

        private boolean isResitOpen(int pupil, int exam) {
            int cell = cellOf(pupil, exam);
            int mark = values[rowOf(owners[MARK], MARK)][cell];
            return isAgreed(MARK, cell) && mark >= 0 && mark <= BEST_MARK_FOR_RESIT;
        }
    }
}
