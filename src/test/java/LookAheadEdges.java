/** Promises 20 to 23: what would be. */
final class LookAheadEdges {
    private static final int[] FAR = {Integer.MIN_VALUE, Integer.MAX_VALUE};

    private LookAheadEdges() {
    }

    static void run(Edges e) {
        doneNow(e);
        doneBehindTicks(e);
        doneByFourHundred(e);
        doneOfNoWriter(e);
        there(e);
        thereByFourHundred(e);
        thereOfTooMany(e);
        thereOfNoWriter(e);
        thereOfNoSigns(e);
        ifHeld(e);
        ifHeldLetters(e);
        ifHeldOfNothing(e);
        best(e);
        bestOfSeveral(e);
        bestOfNone(e);
        bestOfNothing(e);
        copiesOfTheStateOfNow(e);
    }

    /** Window 1: each letter is answered behind so many ticks, and the next one sets out then. */
    private static HeldNotes oneByOne(int travel, int patience) {
        return TermsEdges.with(travel, patience, 20, 1);
    }

    private static void doneNow(Edges e) {
        e.says(20, "0 if it is so now");
        HeldNotes x = new HeldNotes();
        x.post(2);
        e.answers("nothing there yet", 0, () -> x.doneIn(0));
        x.plan(1, 1, 1);
        e.answers("a note of another writer", 0, () -> x.doneIn(0));
        x.write(0, 1);
        e.answers("a letter", 12, () -> x.doneIn(0));
        x.ticks(11);
        e.answers("a tick ahead", 1, () -> x.doneIn(0));
        x.ticks(1);
        e.answers("then", 0, () -> x.doneIn(0));
    }

    private static void doneBehindTicks(Edges e) {
        e.says(20, "Returns behind how many ticks the outbox is empty, no letter is unanswered, and no note of this"
                + " writer is planned");
        HeldNotes x = new HeldNotes();
        x.write(0, 1);
        e.answers("no letter is unanswered", 12, () -> x.doneIn(0));
        x.write(0, 1);
        e.answers("the outbox is empty", 24, () -> x.doneIn(0));
        x.plan(99, 0, 1);
        e.answers("no note is planned", 111, () -> x.doneIn(0));
        HeldNotes y = new HeldNotes();
        y.plan(7, 0, 20);
        y.plan(8, 0, 20);
        e.answers("two notes, the second of which is answered with the first", 14, () -> y.doneIn(0));
    }

    private static void doneByFourHundred(Edges e) {
        e.says(20, "up to 400, if nothing else is done; NONE if it is not so by then.");
        HeldNotes x = oneByOne(3, 14);
        x.write(0, 400);
        e.answers("20 letters of 20 ticks", 400, () -> x.doneIn(0));
        HeldNotes y = oneByOne(3, 14);
        y.plan(1, 0, 400);
        e.answers("a tick more", HeldNotes.NONE, () -> y.doneIn(0));
        HeldNotes z = oneByOne(3, 14);
        z.write(0, 400);
        z.ticks(1);
        e.answers("a tick less", 399, () -> z.doneIn(0));
        z.write(0, 1);
        e.answers("a letter more", HeldNotes.NONE, () -> z.doneIn(0));
    }

    private static void doneOfNoWriter(Edges e) {
        e.says(20, "Throws IndexOutOfBoundsException if there is no such writer");
        HeldNotes x = new HeldNotes();
        x.post(3);
        e.answers("the last writer", 0, () -> x.doneIn(2));
        for (int k : new int[] {-1, 3, 4, FAR[0], FAR[1]}) {
            e.refusesAndKeeps(x, "doneIn(" + k + ")", Check.BOUNDS, () -> x.doneIn(k));
        }
    }

    private static void there(Edges e) {
        e.says(21, "Returns behind how many ticks as many signs would have come to the desk as are written so far with"
                + " this note, if it was written now");
        HeldNotes x = new HeldNotes();
        e.answers("at once", 3, () -> x.thereIn(0, 1));
        e.answers("two full letters", 3, () -> x.thereIn(0, 40));
        e.answers("and a rest that waits for the answer to both", 9, () -> x.thereIn(0, 41));
        x.write(0, 1);
        x.ticks(2);
        e.answers("behind a letter that is under way", 13, () -> x.thereIn(0, 1));
        e.answers("with it", 3, () -> x.thereIn(0, 20));
        x.plan(1, 0, 19);
        e.answers("a planned note fills the letter", 4, () -> x.thereIn(0, 1));
        x.hold(0, false);
        e.answers("not held back", 3, () -> x.thereIn(0, 1));
        HeldNotes y = TermsEdges.with(1, 0, 20, 1);
        e.answers("the shortest way", 1, () -> y.thereIn(0, 1));
    }

    private static void thereByFourHundred(Edges e) {
        e.says(21, "up to 400, and nothing else was done; NONE if that is not so by then");
        HeldNotes x = oneByOne(1, 19);
        e.answers("the 20th letter comes at 400", 400, () -> x.thereIn(0, 400));
        e.answers("the 21st does not by then", HeldNotes.NONE, () -> x.thereIn(0, 401));
        HeldNotes y = oneByOne(2, 19);
        e.answers("a letter that comes at 393", 393, () -> y.thereIn(0, 360));
        e.answers("one that would come at 416", HeldNotes.NONE, () -> y.thereIn(0, 361));
        // A letter under way comes at 401 - 21 * 19 = 2, and each of 19 more 21 ticks later.
        HeldNotes z = oneByOne(1, 19);
        z.set(0, 2);
        z.write(0, 20);
        z.set(0, 1);
        e.answers("at 400 it is not there, as the last comes at 401", HeldNotes.NONE, () -> z.thereIn(0, 380));
        z.ticks(1);
        e.answers("a tick later it is", 400, () -> z.thereIn(0, 380));
    }

    private static void thereOfTooMany(Edges e) {
        e.says(21, "and if write() would throw IllegalStateException.");
        HeldNotes x = ActionsEdges.almostFull();
        x.set(0, 1);
        x.set(1, 0);
        x.set(2, 99);
        x.set(3, 6);
        e.answers("9940 and 59 come in time", 1, () -> x.thereIn(0, 59) > 0 ? 1 : 0);
        e.answers("9940 and 60", HeldNotes.NONE, () -> x.thereIn(0, 60));
        e.answers("9940 and 500", HeldNotes.NONE, () -> x.thereIn(0, 500));
        e.answers("the other writer", 3, () -> x.thereIn(1, 500));
        e.refuses("too many signs for a note", Check.ARGUMENT, () -> x.thereIn(0, 501));
    }

    private static void thereOfNoWriter(Edges e) {
        e.says(21, "Throws IndexOutOfBoundsException if there is no such writer");
        HeldNotes x = ActionsEdges.almostFull();
        e.answers("the last writer", 3, () -> x.thereIn(1, 1));
        for (int k : new int[] {-1, 2, 4, FAR[0], FAR[1]}) {
            e.refusesAndKeeps(x, "thereIn(" + k + ", 1)", Check.BOUNDS, () -> x.thereIn(k, 1));
            e.refuses("signs that are out of range too", Check.BOUNDS, () -> x.thereIn(k, 0));
            e.refuses("signs that are too many for the first", Check.BOUNDS, () -> x.thereIn(k, 60));
        }
    }

    private static void thereOfNoSigns(Edges e) {
        e.says(21, "signs: 1 to 500");
        HeldNotes x = TermsEdges.with(3, 6, 99, 6);
        e.answers("the least", 3, () -> x.thereIn(0, 1));
        e.answers("the most: a rest of 5 goes when five letters are answered", 15, () -> x.thereIn(0, 500));
        e.says(21, "Throws IllegalArgumentException if signs is out of range");
        for (int signs : new int[] {0, 501, -1, FAR[0], FAR[1]}) {
            e.refusesAndKeeps(x, "thereIn(0, " + signs + ")", Check.ARGUMENT, () -> x.thereIn(0, signs));
        }
    }

    private static void ifHeld(Edges e) {
        e.says(22, "what: 0: doneIn() behind hold(k, true); 1: doneIn() behind hold(k, false)");
        HeldNotes x = new HeldNotes();
        x.post(2);
        for (int what = 0; what <= 3; what++) {
            int w = what;
            e.answers("nothing there yet, " + w, 0, () -> x.ifHeld(1, w));
        }
        x.write(1, 1);
        x.write(1, 1);
        e.answers("held back", 24, () -> x.ifHeld(1, 0));
        e.answers("not held back", 6, () -> x.ifHeld(1, 1));
        x.plan(9, 1, 500);
        x.set(3, 1);
        x.set(0, 9);
        x.set(1, 20);
        e.answers("not by 400", HeldNotes.NONE, () -> x.ifHeld(1, 0));
        e.answers("not by 400", HeldNotes.NONE, () -> x.ifHeld(1, 1));
        HeldNotes y = oneByOne(3, 14);
        y.write(0, 400);
        e.answers("at 400", 400, () -> y.ifHeld(0, 0));
        e.answers("at 400", 400, () -> y.ifHeld(0, 1));
        y.undo();
        y.plan(1, 0, 400);
        e.answers("at 401", HeldNotes.NONE, () -> y.ifHeld(0, 0));
        e.answers("at 401", HeldNotes.NONE, () -> y.ifHeld(0, 1));
    }

    private static void ifHeldLetters(Edges e) {
        e.says(22, "2: the letters that the writer k sends in the next 400 ticks behind hold(k, true), by it too; 3:"
                + " those behind hold(k, false)");
        HeldNotes x = new HeldNotes();
        x.post(2);
        x.write(0, 1);
        x.write(0, 25);
        e.answers("5 that are held go later", 1, () -> x.ifHeld(0, 2));
        e.answers("or by hold() itself", 1, () -> x.ifHeld(0, 3));
        x.write(1, 500);
        e.answers("the letters of the other writer do not count", 1, () -> x.ifHeld(0, 3));
        x.set(2, 4);
        e.answers("by it: one full letter in the window, then 2", 2, () -> x.ifHeld(0, 2));
        HeldNotes y = oneByOne(3, 14);
        y.write(0, 500);
        e.answers("a letter is sent at 20, 40, and on to 400", 20, () -> y.ifHeld(0, 2));
        e.answers("a letter is sent at 20, 40, and on to 400", 20, () -> y.ifHeld(0, 3));
        y.undo();
        y.plan(1, 0, 500);
        e.answers("at 1, 21, and on to 381, but not at 401", 20, () -> y.ifHeld(0, 2));
        y.undo();
        y.set(3, 1);
        y.plan(1, 0, 1);
        y.ticks(1);
        y.plan(10, 0, 1);
        y.plan(11, 0, 1);
        y.plan(12, 0, 1);
        y.set(3, 6);
        e.answers("three notes in one letter", 1, () -> y.ifHeld(0, 2));
        e.answers("in three letters", 3, () -> y.ifHeld(0, 3));
    }

    private static void ifHeldOfNothing(Edges e) {
        e.says(22, "Throws IndexOutOfBoundsException if there is no such writer");
        HeldNotes x = new HeldNotes();
        x.post(2);
        for (int k : new int[] {-1, 2, 4, FAR[0], FAR[1]}) {
            e.refusesAndKeeps(x, "ifHeld(" + k + ", 0)", Check.BOUNDS, () -> x.ifHeld(k, 0));
            e.refuses("what is out of range too", Check.BOUNDS, () -> x.ifHeld(k, 4));
        }
        e.says(22, "Throws IllegalArgumentException if what is not 0 to 3");
        for (int what : new int[] {-1, 4, FAR[0], FAR[1]}) {
            e.refusesAndKeeps(x, "ifHeld(1, " + what + ")", Check.ARGUMENT, () -> x.ifHeld(1, what));
        }
    }

    private static void best(Edges e) {
        e.says(23, "what: 1 or 2");
        HeldNotes x = new HeldNotes();
        x.post(2);
        x.set(1, 20);
        x.plan(1, 1, 99);
        x.set(3, 1);
        e.answers("1: no waiting is best", 0, () -> x.best(1, 1));
        e.answers("2: one letter for all is best", 99, () -> x.best(2, 1));
        e.answers("the settings stay", 20, () -> x.setting(1));
        e.answers("the settings stay", 20, () -> x.setting(2));
        e.says(23, "Throws IllegalArgumentException if what is neither 1 nor 2");
        for (int what : new int[] {0, 3, -1, FAR[0], FAR[1]}) {
            e.refusesAndKeeps(x, "best(" + what + ", 0)", Check.ARGUMENT, () -> x.best(what, 0));
        }
    }

    private static void bestOfSeveral(Edges e) {
        e.says(23, "Returns the value of this setting, in its range, with which doneIn(k) would be least, of several"
                + " the lowest");
        HeldNotes x = new HeldNotes();
        e.answers("nothing there yet: the lowest value", 0, () -> x.best(1, 0));
        e.answers("nothing there yet: the lowest value", 4, () -> x.best(2, 0));
        x.write(0, 20);
        x.ticks(3);
        e.answers("all are as good, as the desk has its time", 0, () -> x.best(1, 0));
        e.answers("all are as good, as the letter is sent", 4, () -> x.best(2, 0));
        HeldNotes y = new HeldNotes();
        y.plan(1, 0, 40);
        // Two letters that come together are answered at once; no value below 20 makes it two.
        e.answers("the lowest with which there are two letters", 20, () -> y.best(2, 0));
        e.answers("with 20 it is done in", 7, () -> y.doneIn(0));
        HeldNotes v = TermsEdges.with(1, 1, 20, 3);
        v.plan(1, 0, 12);
        // Three letters of 4 need a tick more than two of 6, as the desk waits with the third.
        e.answers("one that is better by a tick", 6, () -> v.best(2, 0));
        HeldNotes z = TermsEdges.with(3, 6, 20, 1);
        z.plan(1, 0, 500);
        e.answers("the lowest with which six letters are enough", 84, () -> z.best(2, 0));
    }

    private static void bestOfNone(Edges e) {
        e.says(23, "NONE if it would be NONE with each.");
        HeldNotes x = ActionsEdges.almostFull();
        e.answers("9940 signs", HeldNotes.NONE, () -> x.best(1, 0));
        x.set(0, 9);
        e.answers("9940 signs", HeldNotes.NONE, () -> x.best(2, 0));
        e.answers("the other writer", 0, () -> x.best(1, 1));
        HeldNotes y = oneByOne(9, 1);
        y.write(0, 440);
        e.answers("22 letters of 19 ticks", HeldNotes.NONE, () -> y.doneIn(0));
        e.answers("22 letters of 18 ticks, with the lowest value alone", 0, () -> y.best(1, 0));
        y.write(0, 1);
        e.answers("23 letters of 18 ticks", HeldNotes.NONE, () -> y.best(1, 0));
        HeldNotes z = oneByOne(9, 20);
        z.plan(1, 0, 500);
        z.plan(1, 0, 490);
        e.answers("ten letters of 38 ticks, with the highest value alone", 99, () -> z.best(2, 0));
        z.plan(1, 0, 1);
        e.answers("eleven letters of 38 ticks", HeldNotes.NONE, () -> z.best(2, 0));
    }

    private static void bestOfNothing(Edges e) {
        e.says(23, "Throws IndexOutOfBoundsException if there is no such writer");
        HeldNotes x = new HeldNotes();
        x.post(3);
        e.answers("the last writer", 4, () -> x.best(2, 2));
        for (int k : new int[] {-1, 3, 4, FAR[0], FAR[1]}) {
            e.refusesAndKeeps(x, "best(1, " + k + ")", Check.BOUNDS, () -> x.best(1, k));
            e.refuses("what is out of range too", Check.BOUNDS, () -> x.best(0, k));
        }
    }

    /** An earlier look-ahead must leave nothing behind, not even how many writers there were. */
    private static void copiesOfTheStateOfNow(Edges e) {
        e.says(20, "if nothing else is done");
        HeldNotes x = new HeldNotes();
        x.doneIn(0);
        x.runScript(1, 40000);
        x.post(4);
        e.answers("doneIn of a new writer", 0, () -> x.doneIn(3));
        x.post(1);
        e.refuses("doneIn of one that is no more", Check.BOUNDS, () -> x.doneIn(3));
        x.post(4);
        e.answers("ifHeld of a new writer", 0, () -> x.ifHeld(3, 2));
        x.post(1);
        e.refuses("ifHeld of one that is no more", Check.BOUNDS, () -> x.ifHeld(3, 2));
        x.post(4);
        e.answers("best of a new writer", 4, () -> x.best(2, 3));
        x.post(1);
        e.refuses("best of one that is no more", Check.BOUNDS, () -> x.best(2, 3));
        x.post(4);
        e.answers("thereIn of a new writer", 3, () -> x.thereIn(3, 5));
        x.post(1);
        e.refuses("thereIn of one that is no more", Check.BOUNDS, () -> x.thereIn(3, 5));
        x.post(4);
        e.answers("a script of a new writer", HeldNotes.NONE, () -> x.runScript(1, 63000));
        x.post(1);
        e.answers("a script of one that is no more", 0, () -> x.runScript(1, 63000));
    }
}
