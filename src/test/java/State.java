/** All that can be asked of an object without changing it, as one text. */
final class State {
    private static final char[] FIELDS = {'r', 'm', 'x'};

    private State() { }

    static String of(Classfederation x) {
        StringBuilder text = new StringBuilder();
        text.append(x.bids()).append(' ').append(x.rounds()).append(' ').append(x.refunds()).append(' ');
        text.append(x.isTrue()).append('\n');
        for (int pupil = 0; pupil < 10; pupil++) {
            addPupil(text, x, pupil);
        }
        for (int offer = 0; offer < 12; offer++) {
            addOffer(text, x, offer);
        }
        for (char field : FIELDS) {
            char f = field;
            text.append(f).append(Due.told(() -> x.owner(f))).append(' ').append(Due.told(() -> x.apart(f))).append('\n');
        }
        return text.toString();
    }

    private static void addPupil(StringBuilder text, Classfederation x, int pupil) {
        text.append("pupil ").append(pupil).append(": ").append(Due.told(() -> x.points(pupil)));
        for (int slot = 0; slot < 6; slot++) {
            int s = slot;
            text.append(' ').append(Due.told(() -> x.at(pupil, s))).append('+').append(Due.told(() -> x.more(pupil, s)));
        }
        for (int exam = 0; exam < 6; exam++) {
            int e = exam;
            text.append("\n  ").append(Due.told(() -> x.seat(pupil, e, false)));
            text.append(' ').append(Due.told(() -> x.seat(pupil, e, true)));
            text.append(' ').append(Due.told(() -> x.hasSat(pupil, e, false) ? 1 : 0));
            text.append(' ').append(Due.told(() -> x.hasSat(pupil, e, true) ? 1 : 0));
            text.append(' ').append(Due.told(() -> x.maySit(pupil, e) ? 1 : 0));
            text.append(' ').append(Due.told(() -> x.isOpen(pupil, e) ? 1 : 0));
            for (int store = 0; store < 3; store++) {
                int s = store;
                for (char field : FIELDS) {
                    char f = field;
                    text.append(' ').append(Due.told(() -> x.read(s, pupil, e, f)));
                }
            }
        }
        text.append('\n');
    }

    private static void addOffer(StringBuilder text, Classfederation x, int offer) {
        text.append("offer ").append(offer).append(": ").append(Due.told(() -> x.slotOf(offer)));
        text.append(' ').append(Due.told(() -> x.holders(offer))).append(' ').append(Due.told(() -> x.waiting(offer)));
        for (int i = 0; i < 10; i++) {
            int k = i;
            text.append("  ").append(Due.told(() -> x.holder(offer, k)));
            text.append(' ').append(Due.told(() -> x.waiter(offer, k)));
            text.append(' ').append(Due.told(() -> x.paid(k, offer)));
        }
        text.append('\n');
    }
}
