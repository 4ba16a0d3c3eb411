/** All that an object tells of its state, written down, so that two states can be compared. */
final class Portrait {
    private Portrait() {
    }

    static String of(HeldNotes x) {
        StringBuilder all = new StringBuilder();
        for (int what = 0; what <= 8; what++) {
            all.append(x.about(what)).append(' ');
        }
        for (int what = 0; what <= 3; what++) {
            all.append("s").append(x.setting(what)).append(' ');
        }
        for (int i = 0; i < x.about(2); i++) {
            all.append('p').append(x.planned(i, 0)).append('/').append(x.planned(i, 1)).append('/')
                    .append(x.planned(i, 2)).append(' ');
        }
        for (int k = 0; k < x.about(0); k++) {
            addWriter(all, x, k);
        }
        return all.append(" error ").append(x.errorPosition()).toString();
    }

    private static void addWriter(StringBuilder all, HeldNotes x, int k) {
        all.append("\n w").append(k).append(": ");
        for (int what = 0; what <= 6; what++) {
            all.append(x.writer(k, what)).append(' ');
        }
        all.append("d: ");
        for (int what = 0; what <= 5; what++) {
            all.append(x.desk(k, what)).append(' ');
        }
        for (int i = 0; i < x.writer(k, 1); i++) {
            all.append('l').append(x.letter(k, i, 0)).append('@').append(x.letter(k, i, 1)).append(' ');
        }
        // What is under way can't be seen, but for what it does later.
        all.append("done ").append(x.doneIn(k)).append(" there ").append(x.thereIn(k, 7));
    }
}
