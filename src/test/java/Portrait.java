/** All that an object tells of its state, written down, so that two states can be compared. */
final class Portrait {
    private Portrait() {
    }

    static String of(HeldNotes x) {
        StringBuilder all = new StringBuilder();
        for (int what = 0; what <= 8; what++) {
            all.append(x.about(what)).append(' ');
        }
        for (int what = 0; what <= 3; what++) {
            all.append("s").append(x.setting(what)).append(' ');
        }
        int planned = x.about(2);
        for (int i = 0; i < planned; i++) {
            all.append('p').append(x.planned(i, 0)).append('/').append(x.planned(i, 1)).append('/')
                    .append(x.planned(i, 2)).append(' ');
        }
        int writers = x.about(0);
        for (int k = 0; k < writers; k++) {
            addWriter(all, x, k);
        }
        return all.append(" error ").append(x.errorPosition()).toString();
    }

    /**
     * What an object tells of its state, of the states that it remembers, of both save slots and of the
     * text, which are all used up by it.
     */
    static String ofAll(HeldNotes x) {
        StringBuilder all = new StringBuilder(of(x));
        for (int i = 0; i < 15; i++) {
            all.append("\n undo ").append(Check.answer(x::undo)).append(": ").append(sketch(x));
        }
        for (int slot = 0; slot <= 1; slot++) {
            int s = slot;
            all.append("\n restore ").append(Check.answer(() -> x.restore(s))).append(": ").append(sketch(x));
        }
        all.append("\n load ").append(Check.answer(x::load)).append(": ").append(sketch(x));
        return all.append("\n text ").append(x.clearText()).toString();
    }

    /** Fewer calls than a portrait, as an object is used for at most 512. */
    static String sketch(HeldNotes x) {
        StringBuilder all = new StringBuilder();
        for (int what = 0; what <= 8; what++) {
            all.append(x.about(what)).append(' ');
        }
        for (int what = 0; what <= 3; what++) {
            all.append('s').append(x.setting(what)).append(' ');
        }
        return all.append("done ").append(x.doneIn(0)).toString();
    }

    private static void addWriter(StringBuilder all, HeldNotes x, int k) {
        all.append("\n w").append(k).append(": ");
        for (int what = 0; what <= 6; what++) {
            all.append(x.writer(k, what)).append(' ');
        }
        all.append("d: ");
        for (int what = 0; what <= 5; what++) {
            all.append(x.desk(k, what)).append(' ');
        }
        int letters = x.writer(k, 1);
        for (int i = 0; i < letters; i++) {
            all.append('l').append(x.letter(k, i, 0)).append('@').append(x.letter(k, i, 1)).append(' ');
        }
        // What is under way can't be seen, but for what it does later.
        all.append("done ").append(x.doneIn(k)).append(" there ").append(x.thereIn(k, 7));
    }
}
