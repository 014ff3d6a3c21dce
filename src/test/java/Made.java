import java.util.Arrays;

/** Schools to begin a test with. */
final class Made {
    private Made() { }

    /** A school with rooms of these seats, and so many exams and pupils, who have no right yet. */
    static Classfederation school(int exams, int pupils, int... seats) {
        Classfederation x = new Classfederation();
        for (int s : seats) {
            x.room(s);
        }
        for (int i = 0; i < exams; i++) {
            x.exam();
        }
        for (int i = 0; i < pupils; i++) {
            x.pupil();
        }
        return x;
    }

    /** The same, but every pupil may sit every exam. */
    static Classfederation schoolWithRights(int exams, int pupils, int... seats) {
        Classfederation x = school(exams, pupils, seats);
        for (int pupil = 0; pupil < pupils; pupil++) {
            for (int exam = 0; exam < exams; exam++) {
                x.write(0, pupil, exam, 'r', 1);
            }
        }
        x.sync(0, 1);
        x.sync(0, 2);
        return x;
    }

    /** A room, an exam, an offer of it, and so many pupils. */
    static Classfederation pupils(int many) {
        Classfederation x = schoolWithRights(1, many, 1);
        x.offer(0, 0, 0, false);
        return x;
    }

    /** A room, a pupil, and so many exams, the last one offered as first and as resit. */
    static Classfederation exams(int many) {
        Classfederation x = schoolWithRights(many, 1, 1);
        if (many > 0) {
            x.offer(many - 1, 0, 0, false);
            x.offer(many - 1, 1, 0, true);
        }
        return x;
    }

    /** An exam, a pupil, and so many rooms. */
    static Classfederation rooms(int many) {
        int[] seats = new int[many];
        Arrays.fill(seats, 1);
        return schoolWithRights(1, 1, seats);
    }

    /** An exam, a pupil, three rooms, and so many offers, at the slots 0 to 3. */
    static Classfederation offers(int many) {
        Classfederation x = schoolWithRights(1, 1, 1, 1, 1);
        for (int i = 0; i < many; i++) {
            x.offer(0, i / 3, i % 3, false);
        }
        return x;
    }

    /** As many rooms, seats, exams, pupils and offers as there can be; exam e is offered twice, at slot e. */
    static Classfederation full() {
        Classfederation x = schoolWithRights(6, 10, 6, 6, 6);
        for (int i = 0; i < 12; i++) {
            x.offer(i % 6, i % 6, i / 6, false);
        }
        return x;
    }

    /**
     * A school in the midst of things: 3 pupils, 2 exams, rooms of 1 and 2 seats, and 5 offers. Pupil 0 has a seat of
     * offer 0 for 15 and pupil 1 waits for it with 10; pupil 1 has a seat of offer 1 for 21; pupil 2 sat offer 3, for
     * which 30 were paid, at slot 5, and no slot else was sat. Offer 2 is a resit of exam 0, offer 4 has nobody yet.
     * Told for the round are bids of pupil 0 for offer 1, of 1 and then of 2 for offer 4, like ones, and of 2 for 0.
     */
    static Classfederation lively() {
        Classfederation x = schoolWithRights(2, 3, 1, 2);
        x.offer(0, 0, 0, false);
        x.offer(1, 1, 1, false);
        x.offer(0, 2, 1, true);
        x.offer(1, 5, 0, false);
        x.offer(0, 3, 0, false);
        x.bid(0, 0, 15);
        x.bid(1, 0, 10);
        x.bid(1, 1, 21);
        x.bid(2, 3, 30);
        x.settle();
        x.sit(5);
        x.bid(0, 1, 12);
        x.bid(1, 4, 9);
        x.bid(2, 4, 9);
        x.bid(2, 0, 25);
        x.write(1, 2, 1, 'm', 30);
        x.write(2, 1, 1, 'x', 15);
        return x;
    }

    static void everywhere(Classfederation x, int pupil, int exam, char field, int value) {
        for (int store = 0; store < 3; store++) {
            x.write(store, pupil, exam, field, value);
        }
    }

    /** Who has a seat of the offer, each with what was paid for it. */
    static String holders(Classfederation x, int offer) {
        StringBuilder text = new StringBuilder();
        int holders = x.holders(offer);
        for (int i = 0; i < holders; i++) {
            int pupil = x.holder(offer, i);
            text.append(pupil).append(':').append(x.paid(pupil, offer)).append(' ');
        }
        return text.toString().trim();
    }

    static String waiters(Classfederation x, int offer) {
        StringBuilder text = new StringBuilder();
        int waiting = x.waiting(offer);
        for (int i = 0; i < waiting; i++) {
            text.append(x.waiter(offer, i)).append(' ');
        }
        return text.toString().trim();
    }
}
