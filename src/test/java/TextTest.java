/** Promises 2 to 5: the text and what it makes. */
public final class TextTest {
    private static final Check CHECK = new Check();

    public static void main(String[] args) {
        promise2();
        promise3();
        promise4();
        promise5();
        promise5LeavesOut();
        promise5Forgets();
        CHECK.finish("TextTest");
    }

    static void type(HeldNotes x, String text) {
        x.clearText();
        for (int i = 0; i < text.length(); i++) {
            x.append(text.charAt(i));
        }
    }

    private static void promise2() {
        HeldNotes x = new HeldNotes();
        CHECK.answers("append(0)", 1, () -> x.append(0));
        CHECK.answers("append(255)", 2, () -> x.append(255));
        CHECK.refusesAndKeeps(x, "append(-1)", Check.ARGUMENT, () -> x.append(-1));
        CHECK.refusesAndKeeps(x, "append(256)", Check.ARGUMENT, () -> x.append(256));
        CHECK.refuses("append(least)", Check.ARGUMENT, () -> x.append(Integer.MIN_VALUE));
        CHECK.refuses("append(most)", Check.ARGUMENT, () -> x.append(Integer.MAX_VALUE));
        for (int n = 3; n <= 120; n++) {
            CHECK.answers("append, character " + n, n, () -> x.append('N'));
        }
        CHECK.refuses("append to 120", Check.STATE, () -> x.append('N'));
        CHECK.refuses("append(-1) to 120", Check.ARGUMENT, () -> x.append(-1));
        CHECK.refuses("append(256) to 120", Check.ARGUMENT, () -> x.append(256));
        CHECK.answers("the length is still 120", 120, x::clearText);
    }

    private static void promise3() {
        HeldNotes x = new HeldNotes();
        CHECK.answers("clearText of none", 0, x::clearText);
        type(x, "N1f0");
        CHECK.answers("clearText", 4, x::clearText);
        CHECK.answers("clearText again", 0, x::clearText);
        CHECK.answers("an empty text is no post", 0, x::errorPosition);
        CHECK.answers("append begins anew", 1, () -> x.append('N'));
    }

    private static void promise4() {
        String[] posts = {"N1", "N4", "N1w0001", "N1w0500", "N4w3499", "N1w3009", "N1w0010", "N1w0100",
            "N1p010001", "N1p993500", "N1p100010", "N1h00", "N1h31", "N1f0", "N1f3", "N1t01", "N1t10",
            "N1t99", "N2w0001p010001h01f0t01w1002"};
        for (String post : posts) {
            errorOf(post, HeldNotes.NONE);
        }
        errorOf("N4" + "f0".repeat(59), HeldNotes.NONE);
        errorOf("N4" + "f0".repeat(58) + "f4", 119);
        errorOf("N4" + "f0".repeat(58) + "h0", 120);
        errorOfWriters();
        errorOfNumbers();
        errorOfCommands();
        HeldNotes x = new HeldNotes();
        x.write(0, 3);
        type(x, "N1w06");
        CHECK.keeps(x, "errorPosition", x::errorPosition);
        CHECK.answers("errorPosition twice", 4, x::errorPosition);
    }

    private static void errorOf(String text, int place) {
        HeldNotes x = new HeldNotes();
        type(x, text);
        CHECK.answers("errorPosition of " + text, place, x::errorPosition);
    }

    private static void errorOfWriters() {
        errorOf("", 0);
        errorOf("N", 1);
        errorOf("n1", 0);
        errorOf(" N1", 0);
        errorOf("1N", 0);
        errorOf("w0001", 0);
        errorOf("N0", 1);
        errorOf("N5", 1);
        errorOf("NN1", 1);
        errorOf("N/", 1);
        errorOf("N1 ", 2);
        errorOf("N11", 2);
        errorOf("N1" + (char) 255, 2);
        errorOf("N1" + (char) 0, 2);
        errorOf("N1N1", 2);
    }

    private static void errorOfNumbers() {
        errorOf("N1w06", 4);
        errorOf("N1w05", 5);
        errorOf("N1w051", 5);
        errorOf("N1w0501", 6);
        errorOf("N1w050", 6);
        errorOf("N1w0000", 6);
        errorOf("N1w000", 6);
        errorOf("N1w00", 5);
        errorOf("N1w0:", 4);
        errorOf("N1w0/", 4);
        errorOf("N1w00a", 5);
        errorOf("N1w000-", 6);
        errorOf("N1t00", 4);
        errorOf("N1t0", 4);
        errorOf("N1t", 3);
        errorOf("N1t9", 4);
        errorOf("N1t9x", 4);
        errorOf("N1tx", 3);
        errorOf("N1p00", 4);
        errorOf("N1p0", 4);
        errorOf("N1p01", 5);
        errorOf("N1p014", 5);
        errorOf("N1p013", 6);
        errorOf("N1p010000", 8);
        errorOf("N1p010501", 8);
        errorOf("N1p01050", 8);
    }

    private static void errorOfCommands() {
        errorOf("N1x", 2);
        errorOf("N1W0001", 2);
        errorOf("N1w", 3);
        errorOf("N1w4", 3);
        errorOf("N1w0", 4);
        errorOf("N1p", 3);
        errorOf("N1h", 3);
        errorOf("N1h4", 3);
        errorOf("N1h0", 4);
        errorOf("N1h02", 4);
        errorOf("N1h0f", 4);
        errorOf("N1f", 3);
        errorOf("N1f4", 3);
        errorOf("N1f0f", 5);
        errorOf("N1f0 f0", 4);
        errorOf("N1w0001 ", 7);
        errorOf("N1w00012", 7);
        errorOf("N1f0xw06", 4);
    }

    private static void promise5() {
        HeldNotes x = new HeldNotes();
        x.set(0, 9);
        x.set(3, 6);
        x.write(0, 7);
        // Sent: a letter of 20 that comes at 3; 10 are held back for the three ticks.
        type(x, "N2w0030w2001t03f3h11h21p101050p013001h10");
        CHECK.answers("load", 4, x::load);
        long[] about = {2, 3, 1, 10, 1, 1, 0, 20, 3};
        for (int what = 0; what <= 8; what++) {
            int w = what;
            CHECK.answers("about(" + what + ") behind load", about[what], () -> x.about(w));
        }
        CHECK.answers("its planned note", 13, () -> x.planned(0, 0));
        CHECK.answers("its writer", 1, () -> x.planned(0, 1));
        CHECK.answers("its signs", 50, () -> x.planned(0, 2));
        CHECK.answers("hold of the last command", 0, () -> x.writer(1, 2));
        CHECK.answers("the first writer", 1, () -> x.writer(0, 2));
        CHECK.answers("setting 0 is the first one", 3, () -> x.setting(0));
        CHECK.answers("setting 3 is the first one", 3, () -> x.setting(3));
        x.write(1, 5);
        CHECK.answers("load again, as the text is kept", 4, x::load);
        CHECK.answers("and the state is that of the text", 0, () -> x.writer(1, 3));
        type(x, "N3f0t05");
        CHECK.answers("load of three writers", 0, x::load);
        CHECK.answers("three writers", 3, () -> x.about(0));
        CHECK.answers("the time", 5, () -> x.about(1));
        CHECK.answers("the text has its length", 7, x::clearText);
        CHECK.refusesAndKeeps(x, "load of no text", Check.STATE, x::load);
    }

    private static void promise5LeavesOut() {
        HeldNotes x = new HeldNotes();
        type(x, "N1" + "p010001".repeat(9));
        CHECK.answers("load of nine planned notes", 1, x::load);
        CHECK.answers("eight are planned", 8, () -> x.about(2));
        type(x, "N1" + "w0500".repeat(23));
        CHECK.answers("load of too many signs", 3, x::load);
        CHECK.answers("the outbox without three letters", 9940, () -> x.writer(0, 0));
        type(x, "N1w1001w2001w3001p011001h10f2");
        CHECK.answers("load of writers that are not there", 6, x::load);
        CHECK.answers("nothing is written", 0, () -> x.about(3));
        type(x, "N1w0010h00w0005w0006f0w0007");
        CHECK.answers("load of flush and hold", 0, x::load);
        CHECK.answers("the window is full", 3, () -> x.writer(0, 1));
        CHECK.answers("and the rest waits", 7, () -> x.writer(0, 0));
    }

    private static void promise5Forgets() {
        HeldNotes x = new HeldNotes();
        x.write(0, 3);
        x.save(0);
        x.save(1);
        type(x, "N1w06");
        CHECK.refusesAndKeeps(x, "load of no post", Check.STATE, x::load);
        CHECK.answers("the slot is still full", 0, () -> x.restore(0));
        x.write(0, 3);
        type(x, "N1w0001t01");
        CHECK.answers("load", 0, x::load);
        CHECK.refusesAndKeeps(x, "undo behind load", Check.STATE, x::undo);
        CHECK.refusesAndKeeps(x, "restore(0) behind load", Check.STATE, () -> x.restore(0));
        CHECK.refusesAndKeeps(x, "restore(1) behind load", Check.STATE, () -> x.restore(1));
        x.flush(0);
        x.load();
        CHECK.refuses("load is no action", Check.STATE, x::undo);
    }
}
