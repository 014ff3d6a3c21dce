/** Schools to begin a test with. */
final class Made {
    private Made() { }

    /** A school with rooms of these seats, and so many exams and pupils, who have no right yet. */
    static Classfederation school(int exams, int pupils, int... seats) {
        Classfederation x = new Classfederation();
        for (int s : seats) {
            x.room(s);
        }
        for (int i = 0; i < exams; i++) {
            x.exam();
        }
        for (int i = 0; i < pupils; i++) {
            x.pupil();
        }
        return x;
    }

    /** The same, but every pupil may sit every exam. */
    static Classfederation schoolWithRights(int exams, int pupils, int... seats) {
        Classfederation x = school(exams, pupils, seats);
        for (int pupil = 0; pupil < pupils; pupil++) {
            for (int exam = 0; exam < exams; exam++) {
                everywhere(x, pupil, exam, 'r', 1);
            }
        }
        return x;
    }

    static void everywhere(Classfederation x, int pupil, int exam, char field, int value) {
        for (int store = 0; store < 3; store++) {
            x.write(store, pupil, exam, field, value);
        }
    }
}
