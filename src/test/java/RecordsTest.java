/** Promises 23 to 30: the three stores, their owners, and who may sit. */
public final class RecordsTest {
    private static final char[] FIELDS = {'r', 'm', 'x'};
    private static final int[] AT_FIRST = {0, -1, 0};
    private static final int[] LEAST = {0, -1, 0};
    private static final int[] MOST = {1, 100, 60};
    /** Those beside the three, capitals, the ends, and those that are 'r', 'm', 'x' in their last eight bits. */
    private static final char[] NO_FIELDS = {'q', 's', 'l', 'n', 'w', 'y', 'R', 'M', 'X', ' ', 0, 1, 2, 65535,
        'r' + 256, 'm' + 256, 'x' + 256};

    private RecordsTest() { }

    public static void main(String[] args) throws IllegalAccessException {
        Suite.run(RecordsTest.class);
    }

    // Promise 23: write

    @Says(promise = 23, text = "Writes a field into a store.")
    static void writeGoesIntoJustOneCell() {
        for (int store = 0; store < 3; store++) {
            Classfederation x = Made.school(6, 10, 1);
            for (int i = 0; i < 180; i++) {
                x.write(store, i % 10, i / 10 % 6, FIELDS[i / 60], valueFor(i));
            }
            for (int i = 0; i < 180; i++) {
                Due.is("read", x.read(store, i % 10, i / 10 % 6, FIELDS[i / 60]), valueFor(i));
            }
            Due.is("the store beside it", x.read((store + 1) % 3, 9, 5, 'm'), -1);
        }
    }

    @Says(promise = 23, text = "Any store can be written to.")
    static void writeIntoStoresThatAreNotTheOwner() {
        Classfederation x = Made.school(1, 1);
        for (int store = 0; store < 3; store++) {
            for (int field = 0; field < 3; field++) {
                x.write(store, 0, 0, FIELDS[field], 1);
                Due.is("read", x.read(store, 0, 0, FIELDS[field]), 1);
            }
        }
    }

    @Says(promise = 23, text = "`store`: the store, 0 to 2")
    static void writeIntoTheFirstAndTheLastStore() {
        Classfederation x = Made.school(1, 1);
        x.write(0, 0, 0, 'x', 10);
        x.write(2, 0, 0, 'x', 20);
        Due.is("store 0", x.read(0, 0, 0, 'x'), 10);
        Due.is("store 1", x.read(1, 0, 0, 'x'), 0);
        Due.is("store 2", x.read(2, 0, 0, 'x'), 20);
    }

    @Says(promise = 23, text = "`field`: 'r', 'm' or 'x'")
    static void writeOneFieldLeavesTheOthers() {
        Classfederation x = Made.school(1, 1);
        for (int field = 0; field < 3; field++) {
            Due.is("the one before", x.write(0, 0, 0, FIELDS[field], 1), AT_FIRST[field]);
        }
        x.write(0, 0, 0, 'm', 7);
        Due.is("r", x.read(0, 0, 0, 'r'), 1);
        Due.is("m", x.read(0, 0, 0, 'm'), 7);
        Due.is("x", x.read(0, 0, 0, 'x'), 1);
    }

    @Says(promise = 23, text = "Returns the one before.")
    static void writeReturnsTheOneBefore() {
        for (int field = 0; field < 3; field++) {
            char name = FIELDS[field];
            Classfederation x = Made.school(1, 1);
            Due.is("at first of " + name, x.write(2, 0, 0, name, MOST[field]), AT_FIRST[field]);
            Due.is("the greatest of " + name, x.write(2, 0, 0, name, MOST[field]), MOST[field]);
            Due.is("the same of " + name, x.write(2, 0, 0, name, LEAST[field]), MOST[field]);
            Due.is("the least of " + name, x.write(2, 0, 0, name, LEAST[field]), LEAST[field]);
        }
    }

    @Says(promise = 23, text = "'r', the right to sit, 0 or 1, 0 at first; 'm', the mark, 0 to 100, or -1 for none, as at first; 'x', minutes more, 0 to 60, 0 at first.")
    static void writeEachValueInRange() {
        Classfederation x = Made.school(1, 1);
        for (int field = 0; field < 3; field++) {
            for (int value = LEAST[field]; value <= MOST[field]; value++) {
                x.write(1, 0, 0, FIELDS[field], value);
                Due.is("read", x.read(1, 0, 0, FIELDS[field]), value);
            }
        }
    }

    @Says(promise = 23, text = "Throws `IndexOutOfBoundsException` if there is no such store, pupil or exam")
    static void writeIntoNoSuchStore() {
        Due.refusesEach("store", Made::lively, IndexOutOfBoundsException.class, Due.outside(0, 2),
                (x, store) -> x.write(store, 0, 0, 'r', 0));
    }

    @Says(promise = 23, text = "Throws `IndexOutOfBoundsException` if there is no such store, pupil or exam")
    static void writeOfNoSuchPupil() {
        Due.knowsNumbers("pupil", Made::pupils, 10, (x, pupil) -> x.write(0, pupil, 0, 'r', 0));
    }

    @Says(promise = 23, text = "Throws `IndexOutOfBoundsException` if there is no such store, pupil or exam")
    static void writeOfNoSuchExam() {
        Due.knowsNumbers("exam", Made::exams, 6, (x, exam) -> x.write(0, 0, exam, 'r', 0));
    }

    @Says(promise = 23, text = "Throws `IllegalArgumentException` if there is no such field, or the value is out of range")
    static void writeNoSuchField() {
        for (char name : NO_FIELDS) {
            Due.refuses("field " + (int) name, Made::lively, IllegalArgumentException.class,
                    x -> x.write(0, 0, 0, name, 0));
        }
    }

    @Says(promise = 23, text = "Throws `IllegalArgumentException` if there is no such field, or the value is out of range")
    static void writeARightJustOutside() {
        writeJustOutside(0);
    }

    @Says(promise = 23, text = "Throws `IllegalArgumentException` if there is no such field, or the value is out of range")
    static void writeAMarkJustOutside() {
        writeJustOutside(1);
    }

    @Says(promise = 23, text = "Throws `IllegalArgumentException` if there is no such field, or the value is out of range")
    static void writeMinutesJustOutside() {
        writeJustOutside(2);
    }

    @Says(promise = 23, text = Says.FIRST)
    static void writeNowhereComesFirst() {
        Class<IndexOutOfBoundsException> due = IndexOutOfBoundsException.class;
        for (int[] place : new int[][] {{3, 0, 0}, {-1, 0, 0}, {0, 3, 0}, {0, -1, 0}, {0, 0, 2}, {0, 0, -1}}) {
            Due.refuses("no field", Made::lively, due, x -> x.write(place[0], place[1], place[2], 'q', 0));
            Due.refuses("out of range", Made::lively, due, x -> x.write(place[0], place[1], place[2], 'r', 2));
        }
    }

    // Promise 24: read

    @Says(promise = 24, text = "Reads a field of a store.")
    static void readAtFirst() {
        Classfederation x = Made.school(6, 10, 1);
        for (int i = 0; i < 180; i++) {
            Due.is("read", x.read(i % 3, i / 3 % 10, i / 30, FIELDS[i % 7 % 3]), AT_FIRST[i % 7 % 3]);
        }
    }

    @Says(promise = 24, text = "Reads a field of a store.")
    static void readOfOneWhoCameLater() {
        Classfederation x = Made.lively();
        x.pupil();
        x.exam();
        for (int store = 0; store < 3; store++) {
            for (int field = 0; field < 3; field++) {
                Due.is("the new pupil's", x.read(store, 3, 1, FIELDS[field]), AT_FIRST[field]);
                Due.is("of the new exam", x.read(store, 2, 2, FIELDS[field]), AT_FIRST[field]);
            }
        }
    }

    @Says(promise = 24, text = "`store`: the store, 0 to 2")
    static void readOfTheFirstAndTheLastStore() {
        Classfederation x = Made.school(1, 1);
        for (int store = 0; store < 3; store++) {
            x.write(store, 0, 0, 'm', 10 + store);
        }
        for (int store = 0; store < 3; store++) {
            Due.is("read", x.read(store, 0, 0, 'm'), 10 + store);
        }
    }

    @Says(promise = 24, text = "`field`: 'r', 'm' or 'x'")
    static void readOfEachField() {
        Classfederation x = Made.school(1, 1);
        x.write(0, 0, 0, 'r', 1);
        x.write(0, 0, 0, 'm', 2);
        x.write(0, 0, 0, 'x', 3);
        Due.is("r", x.read(0, 0, 0, 'r'), 1);
        Due.is("m", x.read(0, 0, 0, 'm'), 2);
        Due.is("x", x.read(0, 0, 0, 'x'), 3);
    }

    @Says(promise = 24, text = "Returns the value.")
    static void readTheValueOfTheFirstAndTheLastPupilAndExam() {
        Classfederation x = Made.school(6, 10, 1);
        int[][] corners = {{0, 0}, {0, 5}, {9, 0}, {9, 5}};
        for (int i = 0; i < 4; i++) {
            x.write(2, corners[i][0], corners[i][1], 'x', 57 + i);
        }
        for (int i = 0; i < 4; i++) {
            Due.is("read", x.read(2, corners[i][0], corners[i][1], 'x'), 57 + i);
        }
    }

    @Says(promise = 24, text = "Throws `IndexOutOfBoundsException` if there is no such store, pupil or exam")
    static void readOfNoSuchStore() {
        Due.refusesEach("store", Made::lively, IndexOutOfBoundsException.class, Due.outside(0, 2),
                (x, store) -> x.read(store, 0, 0, 'r'));
    }

    @Says(promise = 24, text = "Throws `IndexOutOfBoundsException` if there is no such store, pupil or exam")
    static void readOfNoSuchPupil() {
        Due.knowsNumbers("pupil", Made::pupils, 10, (x, pupil) -> x.read(0, pupil, 0, 'm'));
    }

    @Says(promise = 24, text = "Throws `IndexOutOfBoundsException` if there is no such store, pupil or exam")
    static void readOfNoSuchExam() {
        Due.knowsNumbers("exam", Made::exams, 6, (x, exam) -> x.read(0, 0, exam, 'x'));
    }

    @Says(promise = 24, text = "Throws `IllegalArgumentException` if there is no such field")
    static void readOfNoSuchField() {
        for (char name : NO_FIELDS) {
            Due.refuses("field " + (int) name, Made::lively, IllegalArgumentException.class, x -> x.read(0, 0, 0, name));
        }
    }

    @Says(promise = 24, text = Says.FIRST)
    static void readNowhereComesFirst() {
        for (int[] place : new int[][] {{3, 0, 0}, {-1, 0, 0}, {0, 3, 0}, {0, -1, 0}, {0, 0, 2}, {0, 0, -1}}) {
            Due.refuses("no field", Made::lively, IndexOutOfBoundsException.class,
                    x -> x.read(place[0], place[1], place[2], 'q'));
        }
    }

    // Promise 25: sync

    @Says(promise = 25, text = "To sync one store from another one copies those fields that the other one owns, for all pupils and exams.")
    static void syncCopiesJustTheFieldsOfTheOwner() {
        for (int from = 0; from < 3; from++) {
            int to = (from + 1) % 3;
            Classfederation x = withAllApart();
            Due.is("sync", x.sync(from, to), 1);
            for (int field = 0; field < 3; field++) {
                int due = field == from ? from : to;
                Due.is("field " + FIELDS[field], x.read(to, 0, 0, FIELDS[field]), valueIn(due, field));
                Due.is("the third store", x.read(3 - from - to, 0, 0, FIELDS[field]), valueIn(3 - from - to, field));
                Due.is("the store itself", x.read(from, 0, 0, FIELDS[field]), valueIn(from, field));
            }
        }
    }

    @Says(promise = 25, text = "To sync one store from another one copies those fields that the other one owns, for all pupils and exams.")
    static void syncCopiesForTheFirstAndTheLastPupilAndExam() {
        Classfederation x = Made.school(6, 10, 1);
        for (int pupil = 0; pupil < 10; pupil++) {
            for (int exam = 0; exam < 6; exam++) {
                x.write(1, pupil, exam, 'm', pupil * 6 + exam);
            }
        }
        Due.is("all values", x.sync(1, 0), 60);
        for (int pupil = 0; pupil < 10; pupil++) {
            for (int exam = 0; exam < 6; exam++) {
                Due.is("read", x.read(0, pupil, exam, 'm'), pupil * 6 + exam);
            }
        }
    }

    @Says(promise = 25, text = "`from`: the store whose fields are copied")
    static void syncFromAStoreThatOwnsNothingOrAll() {
        Classfederation x = Made.school(1, 1);
        x.setOwner('m', 0);
        x.setOwner('x', 0);
        x.write(0, 0, 0, 'r', 1);
        x.write(0, 0, 0, 'm', 0);
        x.write(0, 0, 0, 'x', 60);
        x.write(1, 0, 0, 'm', 5);
        Due.is("nothing", x.sync(1, 2), 0);
        Due.is("m as it was", x.read(2, 0, 0, 'm'), -1);
        Due.is("all three", x.sync(0, 2), 3);
        Due.is("all three over others", x.sync(0, 1), 3);
        Due.is("m", x.read(1, 0, 0, 'm'), 0);
    }

    @Says(promise = 25, text = "`to`: the other one")
    static void syncIntoTheOwnerOfAnotherFieldKeepsThatField() {
        Classfederation x = withAllApart();
        x.sync(2, 0);
        x.sync(1, 0);
        Due.is("its own r", x.read(0, 0, 0, 'r'), valueIn(0, 0));
        Due.is("m of 1", x.read(0, 0, 0, 'm'), valueIn(1, 1));
        Due.is("x of 2", x.read(0, 0, 0, 'x'), valueIn(2, 2));
    }

    @Says(promise = 25, text = "Returns how many values changed.")
    static void syncCountsNoneOneAndAsManyAsThereMayBe() {
        Due.is("nothing there", new Classfederation().sync(0, 1), 0);
        Classfederation x = Made.school(6, 10, 1);
        Due.is("nothing written", x.sync(0, 1), 0);
        x.write(0, 9, 5, 'r', 1);
        Due.is("one", x.sync(0, 1), 1);
        Due.is("the same again", x.sync(0, 1), 0);
        x.setOwner('m', 0);
        x.setOwner('x', 0);
        for (int i = 0; i < 180; i++) {
            x.write(0, i % 10, i / 10 % 6, FIELDS[i / 60], 1);
        }
        Due.is("all", x.sync(0, 2), 180);
        Due.is("all but the one that was the same", x.sync(0, 1), 179);
    }

    @Says(promise = 25, text = "Syncs a store from another one.")
    static void syncWithTheSameValueChangesNothing() {
        Classfederation x = withAllApart();
        x.write(1, 0, 0, 'r', valueIn(0, 0));
        Due.is("sync", x.sync(0, 1), 0);
    }

    @Says(promise = 25, text = "Throws `IndexOutOfBoundsException` if there is no such store, for either")
    static void syncFromOrIntoNoSuchStore() {
        for (int there = 0; there < 3; there++) {
            int store = there;
            Due.refusesEach("from", Made::lively, IndexOutOfBoundsException.class, Due.outside(0, 2),
                    (x, none) -> x.sync(none, store));
            Due.refusesEach("into", Made::lively, IndexOutOfBoundsException.class, Due.outside(0, 2),
                    (x, none) -> x.sync(store, none));
        }
    }

    @Says(promise = 25, text = "Throws `IllegalArgumentException` if both are the same")
    static void syncFromItself() {
        Due.refusesEach("store", Made::lively, IllegalArgumentException.class, new int[] {0, 1, 2},
                (x, store) -> x.sync(store, store));
    }

    @Says(promise = 25, text = Says.FIRST)
    static void syncOfNoSuchStoreComesBeforeTheSame() {
        Due.refusesEach("both", Made::lively, IndexOutOfBoundsException.class, Due.outside(0, 2),
                (x, none) -> x.sync(none, none));
    }

    // Promise 26: owner

    @Says(promise = 26, text = "Each field has an owner, a store: at first 'r' the store 0, 'm' 1, 'x' 2.")
    static void ownersAtFirst() {
        Classfederation x = new Classfederation();
        Due.is("owner of r", x.owner('r'), 0);
        Due.is("owner of m", x.owner('m'), 1);
        Due.is("owner of x", x.owner('x'), 2);
    }

    @Says(promise = 26, text = "Returns the owner of a field.")
    static void ownerOfEachFieldApart() {
        Classfederation x = new Classfederation();
        x.setOwner('r', 2);
        x.setOwner('x', 1);
        Due.is("owner of r", x.owner('r'), 2);
        Due.is("owner of m", x.owner('m'), 1);
        Due.is("owner of x", x.owner('x'), 1);
    }

    @Says(promise = 26, text = "`field`: 'r', 'm' or 'x'")
    static void ownerOfAFieldAfterARefusedChange() {
        Classfederation x = withAllApart();
        for (int field = 0; field < 3; field++) {
            char name = FIELDS[field];
            int other = (field + 1) % 3;
            Due.raises("setOwner", UnsupportedOperationException.class, () -> x.setOwner(name, other));
            Due.is("owner of " + name, x.owner(name), field);
        }
    }

    @Says(promise = 26, text = "Returns the store.")
    static void ownerTheFirstAndTheLastStore() {
        Classfederation x = new Classfederation();
        for (int field = 0; field < 3; field++) {
            for (int store = 2; store >= 0; store--) {
                x.setOwner(FIELDS[field], store);
                Due.is("owner", x.owner(FIELDS[field]), store);
            }
        }
    }

    @Says(promise = 26, text = "Throws `IllegalArgumentException` if there is no such field")
    static void ownerOfNoSuchField() {
        for (char name : NO_FIELDS) {
            Due.refuses("field " + (int) name, Made::lively, IllegalArgumentException.class, x -> x.owner(name));
        }
    }

    // Promise 27: setOwner

    @Says(promise = 27, text = "Changes the owner of a field.")
    static void setOwnerChangesWhatCounts() {
        Classfederation x = Made.school(1, 1);
        x.setOwner('r', 1);
        x.write(0, 0, 0, 'r', 1);
        Due.is("the old one's is copied no more", x.sync(0, 2), 0);
        x.write(1, 0, 0, 'r', 1);
        Due.is("but the new one's", x.sync(1, 2), 1);
    }

    @Says(promise = 27, text = "`store`: the store, 0 to 2")
    static void setOwnerToEachStore() {
        for (int store = 0; store < 3; store++) {
            for (int field = 0; field < 3; field++) {
                Classfederation x = Made.school(1, 1);
                Due.is("setOwner", x.setOwner(FIELDS[field], store), field);
                Due.is("owner", x.owner(FIELDS[field]), store);
            }
        }
    }

    @Says(promise = 27, text = "`field`: 'r', 'm' or 'x'")
    static void setOwnerOfOneFieldLeavesTheOthers() {
        Classfederation x = Made.school(1, 1);
        x.setOwner('m', 0);
        Due.is("owner of r", x.owner('r'), 0);
        Due.is("owner of x", x.owner('x'), 2);
        x.write(0, 0, 0, 'r', 1);
        Due.is("where another field is apart", x.setOwner('m', 1), 0);
    }

    @Says(promise = 27, text = "Returns the owner before.")
    static void setOwnerReturnsTheOneBefore() {
        Classfederation x = new Classfederation();
        Due.is("at first", x.setOwner('x', 0), 2);
        Due.is("the same", x.setOwner('x', 0), 0);
        Due.is("another", x.setOwner('x', 1), 0);
    }

    @Says(promise = 27, text = "Throws `IllegalArgumentException` if there is no such field")
    static void setOwnerOfNoSuchField() {
        for (char name : NO_FIELDS) {
            Due.refuses("field " + (int) name, Made::lively, IllegalArgumentException.class, x -> x.setOwner(name, 0));
        }
    }

    @Says(promise = 27, text = "Throws `IndexOutOfBoundsException` if there is no such store")
    static void setOwnerToNoSuchStore() {
        Due.refusesEach("store", Made::lively, IndexOutOfBoundsException.class, Due.outside(0, 2),
                (x, store) -> x.setOwner('r', store));
    }

    @Says(promise = 27, text = "Throws `UnsupportedOperationException` if both stores have not the same in it everywhere")
    static void setOwnerWhereOneValueIsApart() {
        int[][] corners = {{0, 0}, {0, 5}, {9, 0}, {9, 5}, {4, 3}};
        for (int[] place : corners) {
            Due.refuses("apart at " + place[0] + ", " + place[1], () -> {
                Classfederation y = Made.school(6, 10, 1);
                y.write(1, place[0], place[1], 'x', 1);
                return y;
            }, UnsupportedOperationException.class, x -> x.setOwner('x', 1));
        }
        Due.refuses("m of pupil 2", Made::lively, UnsupportedOperationException.class, x -> x.setOwner('m', 0));
        Due.refuses("x of pupil 1", Made::lively, UnsupportedOperationException.class, x -> x.setOwner('x', 0));
    }

    @Says(promise = 27, text = "The owner of a field can be changed to a store that has the same as the old one in this field, for all pupils and exams.")
    static void setOwnerWhereTheThirdStoreIsApart() {
        Classfederation x = Made.school(6, 10, 1);
        x.write(2, 9, 5, 'r', 1);
        Due.is("0 and 1 have the same", x.setOwner('r', 1), 0);
        Due.raises("2 has not", UnsupportedOperationException.class, () -> x.setOwner('r', 2));
        x.write(2, 9, 5, 'r', 0);
        Due.is("now it has", x.setOwner('r', 2), 1);
    }

    @Says(promise = 27, text = "The owner of a field can be changed to a store that has the same as the old one in this field, for all pupils and exams.")
    static void setOwnerToTheOwnerItselfAlwaysGoes() {
        Classfederation x = withAllApart();
        for (int field = 0; field < 3; field++) {
            Due.is("setOwner", x.setOwner(FIELDS[field], field), field);
        }
    }

    @Says(promise = 27, text = "The owner of a field can be changed to a store that has the same as the old one in this field, for all pupils and exams.")
    static void setOwnerWhereNobodyIsThere() {
        Due.is("no pupils, no exams", new Classfederation().setOwner('r', 2), 0);
        Due.is("no exams", Made.school(0, 10).setOwner('m', 2), 1);
        Due.is("no pupils", Made.school(6, 0).setOwner('x', 0), 2);
    }

    @Says(promise = 27, text = Says.FIRST)
    static void setOwnerOfNoSuchFieldComesFirst() {
        Due.refusesEach("no field, store", Made::lively, IllegalArgumentException.class, Due.outside(0, 2),
                (x, store) -> x.setOwner('q', store));
    }

    @Says(promise = 27, text = Says.FIRST)
    static void setOwnerToNoSuchStoreComesBeforeApart() {
        Due.refusesEach("m is apart, store", Made::lively, IndexOutOfBoundsException.class, Due.outside(0, 2),
                (x, store) -> x.setOwner('m', store));
    }

    // Promise 28: apart

    @Says(promise = 28, text = "Stores agree on a field of a pupil and an exam if all three have the same.")
    static void apartWhereJustOneStoreDiffers() {
        for (int store = 0; store < 3; store++) {
            for (char name : FIELDS) {
                Classfederation x = Made.school(1, 1);
                x.write(store, 0, 0, name, 1);
                Due.is("one differs", x.apart(name), 1);
                Made.everywhere(x, 0, 0, name, 1);
                Due.is("all the same", x.apart(name), 0);
            }
        }
    }

    @Says(promise = 28, text = "Stores agree on a field of a pupil and an exam if all three have the same.")
    static void apartWhereAllThreeDiffer() {
        Classfederation x = withAllApart();
        Due.is("m", x.apart('m'), 1);
        x.write(0, 0, 0, 'm', x.read(2, 0, 0, 'm'));
        Due.is("two are the same", x.apart('m'), 1);
        x.write(1, 0, 0, 'm', x.read(2, 0, 0, 'm'));
        Due.is("all three", x.apart('m'), 0);
    }

    @Says(promise = 28, text = "Returns on how many pupils and exams the stores do not agree in a field.")
    static void apartCountsPupilsAndExams() {
        Classfederation x = Made.school(6, 10, 1);
        int apart = 0;
        for (int pupil = 0; pupil < 10; pupil++) {
            for (int exam = 0; exam < 6; exam++) {
                x.write((pupil + exam) % 3, pupil, exam, 'x', 60);
                apart++;
                Due.is("apart", x.apart('x'), apart);
            }
        }
    }

    @Says(promise = 28, text = "`field`: 'r', 'm' or 'x'")
    static void apartInOneFieldIsNotInTheOthers() {
        for (char name : FIELDS) {
            Classfederation x = Made.school(1, 1);
            x.write(0, 0, 0, name, 1);
            for (char other : FIELDS) {
                Due.is("apart", x.apart(other), other == name ? 1 : 0);
            }
        }
    }

    @Says(promise = 28, text = "Returns how many.")
    static void apartNoneAndAsManyAsThereMayBe() {
        Due.is("nothing there", new Classfederation().apart('r'), 0);
        Classfederation x = Made.school(6, 10, 1);
        Due.is("nothing written", x.apart('r'), 0);
        for (int i = 0; i < 60; i++) {
            x.write(0, i % 10, i / 10, 'r', 1);
        }
        Due.is("all", x.apart('r'), 60);
        x.sync(0, 1);
        Due.is("store 2 not yet", x.apart('r'), 60);
        x.sync(0, 2);
        Due.is("none", x.apart('r'), 0);
    }

    @Says(promise = 28, text = "Throws `IllegalArgumentException` if there is no such field")
    static void apartInNoSuchField() {
        for (char name : NO_FIELDS) {
            Due.refuses("field " + (int) name, Made::lively, IllegalArgumentException.class, x -> x.apart(name));
        }
    }

    // Promise 29: maySit

    @Says(promise = 29, text = "A pupil may sit an exam if the stores agree on the right, and it is 1.")
    static void maySitWithEachRightInEachStore() {
        for (int bits = 0; bits < 8; bits++) {
            Classfederation x = Made.school(1, 1);
            for (int store = 0; store < 3; store++) {
                x.write(store, 0, 0, 'r', bits >> store & 1);
            }
            Due.is("maySit with " + bits, x.maySit(0, 0) ? 1 : 0, bits == 7 ? 1 : 0);
        }
    }

    @Says(promise = 29, text = "Returns whether a pupil may sit an exam.")
    static void maySitOfEachPupilAndExamApart() {
        Classfederation x = Made.school(6, 10, 1);
        Made.everywhere(x, 9, 5, 'r', 1);
        for (int pupil = 0; pupil < 10; pupil++) {
            for (int exam = 0; exam < 6; exam++) {
                Due.is("maySit", x.maySit(pupil, exam) ? 1 : 0, pupil == 9 && exam == 5 ? 1 : 0);
            }
        }
    }

    @Says(promise = 29, text = "Returns whether it is so.")
    static void maySitWhateverTheMarkAndTheOwner() {
        Classfederation x = Made.schoolWithRights(1, 1);
        x.write(0, 0, 0, 'm', 80);
        x.write(1, 0, 0, 'x', 60);
        Due.isSo("maySit", x.maySit(0, 0));
        x.setOwner('r', 2);
        Due.isSo("with another owner", x.maySit(0, 0));
    }

    @Says(promise = 29, text = "Throws `IndexOutOfBoundsException` if there is no such pupil or exam")
    static void maySitOfNoSuchPupil() {
        Due.knowsNumbers("pupil", Made::pupils, 10, (x, pupil) -> x.maySit(pupil, 0));
    }

    @Says(promise = 29, text = "Throws `IndexOutOfBoundsException` if there is no such pupil or exam")
    static void maySitOfNoSuchExam() {
        Due.knowsNumbers("exam", Made::exams, 6, (x, exam) -> x.maySit(0, exam));
    }

    // Promise 30: isOpen

    @Says(promise = 30, text = "A resit is open for a pupil and an exam if the stores agree on the mark, and it is 0 to 49.")
    static void isOpenWithEachMark() {
        for (int mark = -1; mark <= 100; mark++) {
            Classfederation x = Made.school(1, 1);
            Made.everywhere(x, 0, 0, 'm', mark);
            Due.is("isOpen with " + mark, x.isOpen(0, 0) ? 1 : 0, mark >= 0 && mark <= 49 ? 1 : 0);
        }
    }

    @Says(promise = 30, text = "A resit is open for a pupil and an exam if the stores agree on the mark, and it is 0 to 49.")
    static void isOpenWhereJustOneStoreDiffers() {
        for (int store = 0; store < 3; store++) {
            Classfederation x = Made.school(1, 1);
            Made.everywhere(x, 0, 0, 'm', 20);
            Due.isSo("agreed", x.isOpen(0, 0));
            x.write(store, 0, 0, 'm', 21);
            Due.isNot("store " + store + " differs", x.isOpen(0, 0));
        }
    }

    @Says(promise = 30, text = "Returns whether a resit is open.")
    static void isOpenOfEachPupilAndExamApart() {
        Classfederation x = Made.school(6, 10, 1);
        Made.everywhere(x, 9, 5, 'm', 0);
        for (int pupil = 0; pupil < 10; pupil++) {
            for (int exam = 0; exam < 6; exam++) {
                Due.is("isOpen", x.isOpen(pupil, exam) ? 1 : 0, pupil == 9 && exam == 5 ? 1 : 0);
            }
        }
    }

    @Says(promise = 30, text = "Returns whether it is.")
    static void isOpenWhateverTheRightAndTheOwner() {
        Classfederation x = Made.school(1, 1);
        Made.everywhere(x, 0, 0, 'm', 49);
        Due.isSo("without the right", x.isOpen(0, 0));
        x.setOwner('m', 2);
        Due.isSo("with another owner", x.isOpen(0, 0));
    }

    @Says(promise = 30, text = "Throws `IndexOutOfBoundsException` if there is no such pupil or exam")
    static void isOpenOfNoSuchPupil() {
        Due.knowsNumbers("pupil", Made::pupils, 10, (x, pupil) -> x.isOpen(pupil, 0));
    }

    @Says(promise = 30, text = "Throws `IndexOutOfBoundsException` if there is no such pupil or exam")
    static void isOpenOfNoSuchExam() {
        Due.knowsNumbers("exam", Made::exams, 6, (x, exam) -> x.isOpen(0, exam));
    }

    // Helpers and schools

    private static void writeJustOutside(int field) {
        Due.refusesEach("value", Made::lively, IllegalArgumentException.class, Due.outside(LEAST[field], MOST[field]),
                (x, value) -> x.write(field, 1, 1, FIELDS[field], value));
    }

    /** Another value for each cell of a field, as far as there are enough. */
    private static int valueFor(int i) {
        int field = i / 60;
        return LEAST[field] + (i * 31 + 7) % (MOST[field] - LEAST[field] + 1);
    }

    /** One pupil, one exam, and no two stores with the same in m or x; store 0 alone has the right. */
    private static Classfederation withAllApart() {
        Classfederation x = Made.school(1, 1);
        for (int store = 0; store < 3; store++) {
            for (int field = 0; field < 3; field++) {
                x.write(store, 0, 0, FIELDS[field], valueIn(store, field));
            }
        }
        return x;
    }

    private static int valueIn(int store, int field) {
        if (field == 0) {
            return store == 0 ? 1 : 0;
        }
        return 10 * field + store;
    }
}
