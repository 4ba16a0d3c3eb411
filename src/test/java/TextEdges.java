/** The sentences on the text, and promises 2 to 5. */
final class TextEdges {
    private TextEdges() {
    }

    static void run(Edges e) {
        lengthOfTheText(e);
        numbersOfAText(e);
        commandsOfAText(e);
        leftOut(e);
        blanks(e);
        fromLeftToRight(e);
        errorPosition(e);
        digitsThatBeginNoNumber(e);
        textThatEndsTooSoon(e);
        characters(e);
        newLength(e);
        fullText(e);
        previousLength(e);
        checkedText(e);
        loadAsInANewObject(e);
        loadForgets(e);
        loadKeepsTheText(e);
        loadCounts(e);
        loadOfNoPost(e);
    }

    private static HeldNotes typed(String text) {
        HeldNotes x = new HeldNotes();
        TextTest.type(x, text);
        return x;
    }

    private static void error(Edges e, String text, int place) {
        HeldNotes x = typed(text);
        e.answers("errorPosition of " + text, place, x::errorPosition);
        if (place == HeldNotes.NONE) {
            e.answers("load of " + text + " goes", 1, () -> Check.answer(x::load).startsWith("throws") ? 0 : 1);
        } else {
            e.refuses("load of " + text, Check.STATE, x::load);
        }
    }

    private static void posts(Edges e, String... texts) {
        for (String text : texts) {
            error(e, text, HeldNotes.NONE);
        }
    }

    private static void lengthOfTheText(Edges e) {
        e.says(Edges.TERMS, "The object has a text buffer of at most 120 characters.");
        HeldNotes x = typed("N1" + "t01".repeat(39));
        e.answers("the 120th", 120, () -> x.append('t'));
        e.refusesAndKeeps(x, "the 121st", Check.STATE, () -> x.append('0'));
        e.answers("all are there", 120, x::clearText);
        error(e, "N1" + "f3".repeat(59), HeldNotes.NONE);
        HeldNotes y = typed("N1" + "f3".repeat(59));
        e.answers("each command of a full text is read", 59, y::load);
    }

    private static void numbersOfAText(Edges e) {
        e.says(Edges.TERMS, "A post as a text is the letter N, a digit for writers (1 to 4)");
        posts(e, "N1", "N4");
        error(e, "N0", 1);
        error(e, "N5", 1);
        error(e, "M1", 0);
        error(e, "n1", 0);
        e.says(Edges.TERMS, "w, a digit for a writer (0 to 3), and three for signs (001 to 500): write()");
        posts(e, "N1w0001", "N1w3500");
        error(e, "N1w0000", 6);
        error(e, "N1w0501", 6);
        error(e, "N1w4001", 3);
        error(e, "N1w/001", 3);
        e.says(Edges.TERMS, "p, two digits for ticks (01 to 99), a digit for a writer, and three for signs: plan()");
        posts(e, "N1p010001", "N1p993500");
        error(e, "N1p000001", 4);
        error(e, "N1p014001", 5);
        error(e, "N1p010000", 8);
        error(e, "N1p010501", 8);
        e.says(Edges.TERMS, "h, a digit for a writer, and 0 or 1: hold()");
        posts(e, "N1h00", "N1h31");
        error(e, "N1h40", 3);
        error(e, "N1h02", 4);
        error(e, "N1h0/", 4);
        e.says(Edges.TERMS, "f and a digit for a writer: flush()");
        posts(e, "N1f0", "N1f3");
        error(e, "N1f4", 3);
        e.says(Edges.TERMS, "t and two digits (01 to 99): ticks()");
        posts(e, "N1t01", "N1t99");
        error(e, "N1t00", 4);
        error(e, "N1t0:", 4);
    }

    private static void commandsOfAText(Edges e) {
        e.says(Edges.TERMS, "and then any number of commands");
        posts(e, "N2", "N2f0", "N2f0f1", "N2w0020p011500h10f1t02");
        HeldNotes x = typed("N2w0020p011500h10f1t02");
        e.answers("load", 0, x::load);
        e.answers("w", 20, () -> x.writer(0, 3));
        e.answers("p", 500, () -> x.writer(1, 3));
        e.answers("h", 0, () -> x.writer(1, 2));
        e.answers("t", 2, () -> x.about(1));
        HeldNotes y = typed("N1w0001w0002");
        y.load();
        e.answers("without f", 1, () -> y.writer(0, 4));
        TextTest.type(y, "N1w0001w0002f0");
        y.load();
        e.answers("with f", 2, () -> y.writer(0, 4));
        TextTest.type(y, "N1h00h01w0001w0002");
        y.load();
        e.answers("a later h", 1, () -> y.writer(0, 4));
        TextTest.type(y, "N1t99t99");
        y.load();
        e.answers("a second t", 198, () -> y.about(1));
    }

    private static void leftOut(Edges e) {
        e.says(Edges.TERMS, "Commands that would throw an exception are left out.");
        HeldNotes x = typed("N3w3001p013001h30f3w2001");
        e.answers("writers that are not there", 4, x::load);
        e.answers("the others go", 1, () -> x.writer(2, 3));
        TextTest.type(x, "N4w3001p013001h30f3w2001");
        e.answers("writers that are there", 0, x::load);
        TextTest.type(x, "N1p010001p020001p030001p040001p050001p060001p070001p080001p990500t01p990499");
        e.answers("a ninth planned note", 1, x::load);
        e.answers("one more when one is written", 100, () -> x.planned(7, 0));
        e.answers("its signs", 499, () -> x.planned(7, 2));
        TextTest.type(x, "N1" + "w0500".repeat(20) + "w0060w0059");
        e.answers("an outbox of 10000", 1, x::load);
        e.answers("an outbox of 9999", 9999, () -> x.writer(0, 0));
    }

    private static void blanks(Edges e) {
        e.says(Edges.TERMS, "There are no blanks.");
        error(e, " N1", 0);
        error(e, "N 1", 1);
        error(e, "N1 ", 2);
        error(e, "N1 f0", 2);
        error(e, "N1f 0", 3);
        error(e, "N1t0 1", 4);
        error(e, "N1f0 ", 4);
        error(e, "N1f0\n", 4);
    }

    private static void fromLeftToRight(Edges e) {
        e.says(Edges.TERMS, "The text is read from left to right.");
        error(e, "N1f4t00", 3);
        error(e, "N1t00f4", 4);
        error(e, "N9x", 1);
    }

    private static void errorPosition(Edges e) {
        e.says(Edges.TERMS, "The error position is the index of the first character that these rules do not allow at"
                + " its place");
        error(e, "1N", 0);
        error(e, "NN", 1);
        error(e, "N1N1", 2);
        error(e, "N11", 2);
        error(e, "N1F0", 2);
        error(e, "N1ff", 3);
        error(e, "N1f00", 4);
        error(e, "N1h0h", 4);
        error(e, "N1w00w", 5);
        error(e, "N1p01x", 5);
        error(e, "N1w0001x", 7);
        error(e, "N" + (char) 0, 1);
        error(e, "N1" + (char) 255, 2);
        error(e, "N1t0" + (char) ('1' + 128), 4);
        error(e, "N1" + "f0".repeat(58) + "f4", 119);
        error(e, "x", 0);
    }

    private static void digitsThatBeginNoNumber(Edges e) {
        e.says(Edges.TERMS, "(a digit is not allowed if no number that is allowed begins with it and those before it)");
        error(e, "N1w06", 4);
        error(e, "N1w09", 4);
        error(e, "N1w051", 5);
        error(e, "N1w059", 5);
        error(e, "N1w0501", 6);
        error(e, "N1w0509", 6);
        error(e, "N1w0000", 6);
        error(e, "N1p00", 4);
        error(e, "N1p0106", 6);
        error(e, "N1p01051", 7);
        error(e, "N1t00", 4);
        posts(e, "N1w0500", "N1w0499", "N1w0100", "N1w0010", "N1w0009", "N1p100010", "N1t10", "N1t09", "N1t90");
    }

    private static void textThatEndsTooSoon(Edges e) {
        e.says(Edges.TERMS, "if the text ends too soon, it is the length of the text.");
        String[] begun = {"", "N", "N1w", "N1w0", "N1w05", "N1w050", "N1p", "N1p9", "N1p99", "N1p993", "N1p9935",
            "N1p99350", "N1h", "N1h3", "N1f", "N1t", "N1t0", "N1t9", "N1f0w00"};
        for (String text : begun) {
            error(e, text, text.length());
        }
        error(e, "N1" + "f0".repeat(57) + "w000", 120);
        error(e, "N1" + "f0".repeat(58) + "h0", 120);
    }

    private static void characters(Edges e) {
        e.says(2, "c: character code, 0 to 255");
        HeldNotes x = new HeldNotes();
        e.answers("the lowest", 1, () -> x.append(0));
        e.answers("the highest", 2, () -> x.append(255));
        e.says(2, "Throws IllegalArgumentException if c is out of range");
        for (int c : new int[] {-1, 256, Integer.MIN_VALUE, Integer.MAX_VALUE, 256 + 'N'}) {
            e.refusesAndKeeps(x, "append(" + c + ")", Check.ARGUMENT, () -> x.append(c));
        }
        e.answers("nothing was appended", 2, x::clearText);
    }

    private static void newLength(Edges e) {
        e.says(2, "Returns the new length of the text.");
        HeldNotes x = new HeldNotes();
        for (int length = 1; length <= 120; length++) {
            e.answers("append", length, () -> x.append('f'));
        }
    }

    private static void fullText(Edges e) {
        e.says(2, "Throws IllegalStateException if the text already has 120 characters");
        HeldNotes x = typed("N4" + "f3".repeat(58) + "f");
        e.answers("to 119 of them", 120, () -> x.append('0'));
        e.refusesAndKeeps(x, "to 120", Check.STATE, () -> x.append('0'));
        e.refuses("to 120, out of range too", Check.ARGUMENT, () -> x.append(-1));
        e.answers("the text is as it was", 0, x::load);
        e.answers("and as long", 120, x::clearText);
        e.answers("and may grow again", 1, () -> x.append('N'));
    }

    private static void previousLength(Edges e) {
        e.says(3, "Returns the previous length of the text.");
        HeldNotes x = new HeldNotes();
        e.answers("nothing there yet", 0, x::clearText);
        x.append('N');
        e.answers("one character", 1, x::clearText);
        e.answers("none is left", 0, x::clearText);
        TextTest.type(x, "N1" + "f0".repeat(59));
        e.answers("a full text", 120, x::clearText);
        e.answers("none is left of it", 0, x::errorPosition);
        x.append('N');
        e.answers("nor behind a new character", 1, x::errorPosition);
        e.says(3, "Empties the text buffer.");
        x.clearText();
        e.refuses("no post is left", Check.STATE, x::load);
    }

    private static void checkedText(Edges e) {
        e.says(4, "Returns the error position of the text; NONE if it is a post.");
        HeldNotes x = new HeldNotes();
        e.answers("no text", 0, x::errorPosition);
        x.append('N');
        e.answers("N", 1, x::errorPosition);
        x.append('1');
        e.answers("N1", HeldNotes.NONE, x::errorPosition);
        x.append('x');
        e.answers("N1x", 2, x::errorPosition);
        e.answers("once more", 2, x::errorPosition);
    }

    private static void loadAsInANewObject(Edges e) {
        e.says(5, "Makes everything as in a new object, but with the writers that are told, and then does the commands"
                + " of the text.");
        for (int writers = 1; writers <= 4; writers++) {
            HeldNotes x = TermsEdges.with(9, 0, 99, 6);
            x.post(3);
            x.hold(0, false);
            x.write(0, 500);
            x.plan(5, 1, 5);
            x.ticks(20);
            x.write(2, 500);
            TextTest.type(x, "N" + writers);
            HeldNotes y = typed("N" + writers);
            y.post(writers);
            e.answers("load", 0, x::load);
            e.same("all is as in a new object", Portrait.of(x), Portrait.of(y));
        }
    }

    private static void loadForgets(Edges e) {
        e.says(5, "Behind it no state is remembered, and both save slots are empty.");
        HeldNotes x = typed("N1w0001t01");
        x.write(0, 1);
        x.save(0);
        x.save(1);
        x.load();
        e.refusesAndKeeps(x, "undo", Check.STATE, x::undo);
        e.refusesAndKeeps(x, "restore(0)", Check.STATE, () -> x.restore(0));
        e.refusesAndKeeps(x, "restore(1)", Check.STATE, () -> x.restore(1));
        x.flush(0);
        e.answers("an action behind it can be taken back", 0, x::undo);
        e.refuses("and nothing more", Check.STATE, x::undo);
        e.answers("a slot can be used again", 1, () -> x.save(1));
        e.answers("restore(1)", 1, () -> x.restore(1));
        e.refuses("the other one is empty still", Check.STATE, () -> x.restore(0));
    }

    private static void loadKeepsTheText(Edges e) {
        e.says(5, "Keeps the text.");
        HeldNotes x = typed("N3w2020t05");
        x.load();
        String first = Portrait.of(x);
        x.ticks(9);
        e.answers("load again", 0, x::load);
        e.same("does the same", Portrait.of(x), first);
        e.answers("the length", 10, x::clearText);
    }

    private static void loadCounts(Edges e) {
        e.says(5, "Returns the number of commands that are left out.");
        HeldNotes x = typed("N1");
        e.answers("no commands", 0, x::load);
        TextTest.type(x, "N1f0");
        e.answers("none of one", 0, x::load);
        TextTest.type(x, "N1f1");
        e.answers("one of one", 1, x::load);
        TextTest.type(x, "N1f1f0f2f0f3");
        e.answers("three of five", 3, x::load);
        TextTest.type(x, "N3f1f0f2f0f3");
        e.answers("one of five", 1, x::load);
    }

    private static void loadOfNoPost(Edges e) {
        e.says(5, "Throws IllegalStateException if the text is not a post");
        for (String text : new String[] {"", "N", "N0", "N1w0", "N1f0x"}) {
            HeldNotes x = typed(text);
            x.write(0, 3);
            x.save(1);
            x.ticks(2);
            e.refusesAndKeeps(x, "load of " + text, Check.STATE, x::load);
            e.answers("a state is still remembered", 1, x::undo);
            e.answers("the slot is still full", 0, () -> x.restore(1));
            e.answers("the text is kept", text.length(), x::clearText);
        }
    }
}
