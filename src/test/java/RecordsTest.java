/** Promises 23 to 30: the three stores, their owners, and who may sit. */
public final class RecordsTest {
    private static final char[] FIELDS = {'r', 'm', 'x'};
    private static final int[] LEAST = {0, -1, 0};
    private static final int[] MOST = {1, 100, 60};

    private RecordsTest() { }

    public static void main(String[] args) {
        promise23And24();
        promise23Ranges();
        promise23And24Refused();
        promise25();
        promise25Owners();
        promise25Refused();
        promise26();
        promise27();
        promise28();
        promise29();
        promise30();
        Due.end();
    }

    private static void promise23And24() {
        Classfederation x = Made.school(6, 10, 1);
        for (int pass = 0; pass < 2; pass++) {
            for (int i = 0; i < 540; i++) {
                int store = i % 3;
                int field = i / 3 % 3;
                int pupil = i / 9 % 10;
                int exam = i / 90;
                int value = valueFor(i, field);
                char name = FIELDS[field];
                if (pass == 0) {
                    int first = field == 1 ? -1 : 0;
                    Due.is("the one before", x.write(store, pupil, exam, name, value), first);
                } else {
                    Due.is("read", x.read(store, pupil, exam, name), value);
                    Due.is("the one before", x.write(store, pupil, exam, name, LEAST[field]), value);
                }
            }
        }
    }

    private static int valueFor(int i, int field) {
        return LEAST[field] + (i * 31 + 7) % (MOST[field] - LEAST[field] + 1);
    }

    private static void promise23Ranges() {
        Classfederation x = Made.school(1, 1, 1);
        for (int field = 0; field < 3; field++) {
            char name = FIELDS[field];
            int least = LEAST[field];
            int most = MOST[field];
            x.write(2, 0, 0, name, least);
            Due.is("least of " + name, x.write(2, 0, 0, name, most), least);
            Due.is("most of " + name, x.read(2, 0, 0, name), most);
            for (int value : new int[] {least - 1, most + 1, Integer.MIN_VALUE, Integer.MAX_VALUE}) {
                Due.refuses(name + " " + value, x, IllegalArgumentException.class,
                        () -> x.write(2, 0, 0, name, value));
            }
        }
    }

    private static void promise23And24Refused() {
        Classfederation x = Made.school(1, 1, 1);
        int[][] places = {{3, 0, 0}, {-1, 0, 0}, {0, 1, 0}, {0, -1, 0}, {0, 0, 1}, {0, 0, -1},
            {Integer.MAX_VALUE, 0, 0}, {0, Integer.MIN_VALUE, 0}, {0, 0, 6}, {0, 10, 0}};
        for (int[] p : places) {
            Due.refuses("write nowhere", x, IndexOutOfBoundsException.class, () -> x.write(p[0], p[1], p[2], 'r', 1));
            Due.refuses("write nowhere", x, IndexOutOfBoundsException.class, () -> x.write(p[0], p[1], p[2], 'q', 1));
            Due.refuses("write nowhere", x, IndexOutOfBoundsException.class, () -> x.write(p[0], p[1], p[2], 'r', 9));
            Due.refuses("read nowhere", x, IndexOutOfBoundsException.class, () -> x.read(p[0], p[1], p[2], 'm'));
            Due.refuses("read nowhere", x, IndexOutOfBoundsException.class, () -> x.read(p[0], p[1], p[2], 'q'));
        }
        for (char name : new char[] {'q', 'R', 'M', 'X', 'n', 0, 65535}) {
            Due.refuses("write no field", x, IllegalArgumentException.class, () -> x.write(0, 0, 0, name, 0));
            Due.refuses("read no field", x, IllegalArgumentException.class, () -> x.read(0, 0, 0, name));
        }
    }

    private static void promise25() {
        Classfederation x = Made.school(2, 2, 1);
        for (int store = 0; store < 3; store++) {
            x.write(store, 0, 0, 'r', store == 0 ? 1 : 0);
            x.write(store, 1, 1, 'r', store == 0 ? 1 : 0);
            x.write(store, 0, 1, 'm', 10 + store);
            x.write(store, 1, 0, 'x', 20 + store);
        }
        Due.is("store 1 from 0", x.sync(0, 1), 2);
        Due.is("a field of the owner", x.read(1, 1, 1, 'r'), 1);
        Due.is("not another's", x.read(1, 0, 1, 'm'), 11);
        Due.is("not another's", x.read(1, 1, 0, 'x'), 21);
        Due.is("not in the third", x.read(2, 0, 0, 'r'), 0);
        Due.is("again", x.sync(0, 1), 0);
        Due.is("store 0 from 2", x.sync(2, 0), 1);
        Due.is("x", x.read(0, 1, 0, 'x'), 22);
        Due.is("m is not of 2", x.read(0, 0, 1, 'm'), 10);
        Due.is("store 2 from 1", x.sync(1, 2), 1);
        Due.is("m", x.read(2, 0, 1, 'm'), 11);
        Due.is("the owner's own", x.read(1, 0, 1, 'm'), 11);
    }

    private static void promise25Owners() {
        Classfederation x = Made.school(1, 1, 1);
        x.setOwner('m', 0);
        x.setOwner('x', 0);
        x.write(0, 0, 0, 'r', 1);
        x.write(0, 0, 0, 'm', 0);
        x.write(0, 0, 0, 'x', 60);
        x.write(1, 0, 0, 'm', 5);
        Due.is("nothing of no field", x.sync(1, 2), 0);
        Due.is("all three fields", x.sync(0, 2), 3);
        Due.is("m", x.read(2, 0, 0, 'm'), 0);
        Due.is("all three fields", x.sync(0, 1), 3);
        Due.is("m", x.read(1, 0, 0, 'm'), 0);
    }

    private static void promise25Refused() {
        Classfederation x = Made.school(1, 1, 1);
        x.write(0, 0, 0, 'r', 1);
        int[][] none = {{3, 0}, {0, 3}, {-1, 0}, {0, -1}, {3, 3}, {-1, -1}, {Integer.MIN_VALUE, 1}};
        for (int[] p : none) {
            Due.refuses("no such store", x, IndexOutOfBoundsException.class, () -> x.sync(p[0], p[1]));
        }
        for (int store = 0; store < 3; store++) {
            int same = store;
            Due.refuses("the same", x, IllegalArgumentException.class, () -> x.sync(same, same));
        }
    }

    private static void promise26() {
        Classfederation x = new Classfederation();
        Due.is("owner of r", x.owner('r'), 0);
        Due.is("owner of m", x.owner('m'), 1);
        Due.is("owner of x", x.owner('x'), 2);
        for (char name : new char[] {'q', 'R', 0, 65535}) {
            Due.refuses("no such field", x, IllegalArgumentException.class, () -> x.owner(name));
        }
    }

    private static void promise27() {
        Classfederation x = Made.school(2, 2, 1);
        Due.is("the owner before", x.setOwner('r', 1), 0);
        Due.is("the owner before", x.setOwner('r', 2), 1);
        Due.is("the owner itself", x.setOwner('r', 2), 2);
        Due.is("owner", x.owner('r'), 2);
        x.write(2, 1, 1, 'r', 1);
        Due.refuses("not the same", x, UnsupportedOperationException.class, () -> x.setOwner('r', 0));
        Due.refuses("not the same", x, UnsupportedOperationException.class, () -> x.setOwner('r', 1));
        Due.is("the owner itself, where others differ", x.setOwner('r', 2), 2);
        Due.is("another field", x.setOwner('m', 0), 1);
        Due.is("back", x.setOwner('m', 1), 0);
        x.write(0, 1, 1, 'r', 1);
        Due.is("both the same, the third not", x.setOwner('r', 0), 2);
        Due.refuses("the third is not", x, UnsupportedOperationException.class, () -> x.setOwner('r', 1));
        int[][] corners = {{0, 0}, {0, 5}, {9, 0}, {9, 5}};
        for (int[] p : corners) {
            Classfederation y = Made.school(6, 10, 1);
            y.write(1, p[0], p[1], 'x', 1);
            Due.refuses("not the same in one", y, UnsupportedOperationException.class, () -> y.setOwner('x', 1));
        }
        for (int store : new int[] {3, -1}) {
            Due.refuses("no such store", x, IndexOutOfBoundsException.class, () -> x.setOwner('r', store));
            Due.refuses("no field, no store", x, IllegalArgumentException.class, () -> x.setOwner('q', store));
        }
        Due.refuses("no such field", x, IllegalArgumentException.class, () -> x.setOwner('q', 0));
    }

    private static void promise28() {
        Classfederation x = Made.school(6, 10, 1);
        for (char name : FIELDS) {
            Due.is("apart", x.apart(name), 0);
        }
        int apart = 0;
        for (int pupil = 0; pupil < 10; pupil++) {
            for (int exam = 0; exam < 6; exam++) {
                x.write((pupil + exam) % 3, pupil, exam, 'r', 1);
                apart++;
                Due.is("apart", x.apart('r'), apart);
            }
        }
        Due.is("apart in another field", x.apart('m'), 0);
        x.write(0, 9, 5, 'm', 1);
        x.write(1, 9, 5, 'm', 2);
        x.write(2, 9, 5, 'm', 3);
        x.write(2, 0, 0, 'm', 0);
        Due.is("apart", x.apart('m'), 2);
        x.write(0, 9, 5, 'm', 3);
        Due.is("two of three are not all", x.apart('m'), 2);
        x.write(1, 9, 5, 'm', 3);
        Due.is("all three", x.apart('m'), 1);
        for (char name : new char[] {'q', 'X', 0}) {
            Due.refuses("no such field", x, IllegalArgumentException.class, () -> x.apart(name));
        }
    }

    private static void promise29() {
        Classfederation x = Made.school(2, 2, 1);
        for (int bits = 0; bits < 8; bits++) {
            for (int store = 0; store < 3; store++) {
                x.write(store, 1, 0, 'r', bits >> store & 1);
            }
            Due.is("maySit with " + bits, x.maySit(1, 0) ? 1 : 0, bits == 7 ? 1 : 0);
            Due.isNot("maySit of another pupil", x.maySit(0, 0));
            Due.isNot("maySit another exam", x.maySit(1, 1));
        }
        refusedAt(x, "maySit");
    }

    private static void promise30() {
        Classfederation x = Made.school(2, 2, 1);
        for (int mark = -1; mark <= 100; mark++) {
            Made.everywhere(x, 1, 0, 'm', mark);
            Due.is("isOpen with " + mark, x.isOpen(1, 0) ? 1 : 0, mark >= 0 && mark <= 49 ? 1 : 0);
        }
        Due.isNot("isOpen without a mark", x.isOpen(0, 0));
        for (int store = 0; store < 3; store++) {
            Made.everywhere(x, 1, 0, 'm', 20);
            Due.isSo("isOpen without the right", x.isOpen(1, 0));
            x.write(store, 1, 0, 'm', 21);
            Due.isNot("isOpen where one store differs", x.isOpen(1, 0));
        }
        refusedAt(x, "isOpen");
    }

    private static void refusedAt(Classfederation x, String call) {
        int[][] places = {{2, 0}, {-1, 0}, {0, 2}, {0, -1}, {10, 0}, {0, 6}, {Integer.MIN_VALUE, 0}};
        for (int[] p : places) {
            Due.refuses(call, x, IndexOutOfBoundsException.class,
                    () -> { boolean b = call.equals("maySit") ? x.maySit(p[0], p[1]) : x.isOpen(p[0], p[1]); });
        }
    }
}
