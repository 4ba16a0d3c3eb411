/** Promises 1 and 6 to 11: what there is. */
final class LooksEdges {
    private static final int[] FAR = {Integer.MIN_VALUE, Integer.MAX_VALUE};

    private LooksEdges() {
    }

    static void run(Edges e) {
        newObject(e);
        about(e);
        writerOrDesk(e, 7, 6);
        writerOrDesk(e, 8, 5);
        numbersOfAWriter(e);
        numbersOfADesk(e);
        lettersOfAWriter(e);
        lettersThatAreNotThere(e);
        numbersOfALetter(e);
        notesThatAreNotThere(e);
        numbersOfANote(e);
        settings(e);
    }

    private interface Look {
        int of(int what);
    }

    /** The numbers from 0 to the greatest that there is. */
    private static void all(Edges e, String name, Look look, int... due) {
        for (int what = 0; what < due.length; what++) {
            int w = what;
            e.answers(name + ", " + what, due[what], () -> look.of(w));
        }
    }

    private static void newObject(Edges e) {
        e.says(1, "Creates a post with one writer.");
        HeldNotes x = new HeldNotes();
        all(e, "about", x::about, 1, 0, 0, 0, 0, 0, 0, 0, 0);
        all(e, "setting", x::setting, 3, 6, 20, 3);
        e.refuses("writer 1", Check.BOUNDS, () -> x.writer(1, 0));
        e.refuses("a letter", Check.BOUNDS, () -> x.letter(0, 0, 0));
        e.refuses("a planned note", Check.BOUNDS, () -> x.planned(0, 0));
        e.refuses("undo", Check.STATE, x::undo);
        e.refuses("restore(0)", Check.STATE, () -> x.restore(0));
        e.refuses("restore(1)", Check.STATE, () -> x.restore(1));
        e.refuses("load", Check.STATE, x::load);
        e.answers("clearText", 0, x::clearText);
        e.says(Edges.TERMS, "NONE = -1: There is no such result.");
        e.same("NONE", HeldNotes.NONE, -1);
        e.answers("the desk's time", -1, () -> x.desk(0, 3));
        TextTest.type(x, "N1");
        e.answers("the error position of a post", -1, x::errorPosition);
        e.answers("a script that succeeds", -1, () -> x.runScript(1, 40000));
    }

    /** All numbers of it are other ones: four writers, at 10, one of them with an answer under way. */
    private static HeldNotes busy() {
        HeldNotes x = new HeldNotes();
        x.post(4);
        x.hold(3, false);
        x.write(3, 45);
        x.write(1, 25);
        x.plan(40, 2, 500);
        x.plan(50, 0, 1);
        x.ticks(10);
        return x;
    }

    private static void about(Edges e) {
        e.says(6, "what: 0: the writers; 1: the time; 2: the planned notes; 3: the signs in all outboxes; 4: the"
                + " unanswered letters of all writers; 5: the letters sent so far; 6: the answers that set out so far;"
                + " 7: the signs that came to desks so far; 8: the ticks so far in which writers were held back, of all"
                + " writers together");
        HeldNotes x = busy();
        all(e, "about", x::about, 4, 10, 2, 5, 2, 4, 3, 65, 10);
        x.write(0, 1);
        x.write(0, 1);
        x.ticks(1);
        e.answers("a tick in which two are held counts twice", 12, () -> x.about(8));
        e.says(6, "Throws IllegalArgumentException if what is not 0 to 8");
        for (int what : new int[] {-1, 9, FAR[0], FAR[1]}) {
            e.refusesAndKeeps(x, "about(" + what + ")", Check.ARGUMENT, () -> x.about(what));
        }
    }

    private static int look(HeldNotes x, int promise, int k, int what) {
        return promise == 7 ? x.writer(k, what) : x.desk(k, what);
    }

    private static void writerOrDesk(Edges e, int promise, int most) {
        HeldNotes x = busy();
        e.says(promise, promise == 7 ? "k: writer" : "k: its writer");
        e.answers("the first", promise == 7 ? 1 : 0, () -> look(x, promise, 0, 2));
        e.answers("the last", 45, () -> look(x, promise, 3, promise == 7 ? 3 : 0));
        e.says(promise, "Throws IndexOutOfBoundsException if there is no such writer");
        for (int k : new int[] {-1, 4, FAR[0], FAR[1]}) {
            e.refusesAndKeeps(x, "writer " + k, Check.BOUNDS, () -> look(x, promise, k, 0));
            e.refuses("what is wrong too", Check.BOUNDS, () -> look(x, promise, k, most + 1));
        }
        HeldNotes y = new HeldNotes();
        e.refuses("a second writer of one", Check.BOUNDS, () -> look(y, promise, 1, 0));
        e.says(promise, "Throws IllegalArgumentException if what is not 0 to " + most);
        for (int what : new int[] {-1, most + 1, FAR[0], FAR[1]}) {
            e.refusesAndKeeps(x, "what " + what, Check.ARGUMENT, () -> look(x, promise, 0, what));
            e.refuses("of the last writer", Check.ARGUMENT, () -> look(x, promise, 3, what));
        }
    }

    private static void numbersOfAWriter(Edges e) {
        e.says(7, "what: 0: the signs in the outbox; 1: the unanswered letters; 2: 1 if the writer holds back,"
                + " otherwise 0; 3: the signs written so far; 4: the letters sent so far; 5: the ticks so far in which"
                + " the writer was held back; 6: the letters that are answered");
        HeldNotes x = busy();
        all(e, "writer 0", w -> x.writer(0, w), 0, 0, 1, 0, 0, 0, 0);
        all(e, "writer 1", w -> x.writer(1, w), 5, 1, 1, 25, 1, 10, 0);
        all(e, "writer 3", w -> x.writer(3, w), 0, 1, 0, 45, 3, 0, 2);
        x.ticks(2);
        all(e, "writer 1 at 12", w -> x.writer(1, w), 0, 1, 1, 25, 2, 11, 1);
        all(e, "writer 3 at 12", w -> x.writer(3, w), 0, 0, 0, 45, 3, 0, 3);
    }

    private static void numbersOfADesk(Edges e) {
        e.says(8, "what: 0: the signs that came so far; 1: the letters that came so far; 2: the letters that are"
                + " unanswered by the desk; 3: the time at which it is going to answer, NONE if it has none; 4: the"
                + " answers that set out so far; 5: the answers that are under way");
        HeldNotes x = busy();
        all(e, "desk 0", w -> x.desk(0, w), 0, 0, 0, HeldNotes.NONE, 0, 0);
        all(e, "desk 1", w -> x.desk(1, w), 20, 1, 0, HeldNotes.NONE, 1, 1);
        all(e, "desk 3", w -> x.desk(3, w), 45, 3, 0, HeldNotes.NONE, 2, 1);
        x.ticks(5);
        all(e, "desk 1 at 15", w -> x.desk(1, w), 25, 2, 1, 21, 1, 0);
    }

    private static void lettersOfAWriter(Edges e) {
        e.says(9, "i: letter, from 0 for the one that was sent first");
        HeldNotes x = TermsEdges.with(9, 0, 4, 6);
        x.hold(0, false);
        x.write(0, 21);
        for (int letter = 0; letter <= 5; letter++) {
            int i = letter;
            e.answers("letter " + i, i < 5 ? 4 : 1, () -> x.letter(0, i, 0));
        }
        x.ticks(18);
        e.refuses("all are answered", Check.BOUNDS, () -> x.letter(0, 0, 0));
        x.write(0, 2);
        e.answers("the first that is unanswered is letter 0", 2, () -> x.letter(0, 0, 0));
    }

    private static void lettersThatAreNotThere(Edges e) {
        e.says(9, "Throws IndexOutOfBoundsException if there is no such writer or letter");
        HeldNotes x = busy();
        e.refuses("nothing sent yet", Check.BOUNDS, () -> x.letter(0, 0, 0));
        e.answers("the only one", 5, () -> x.letter(3, 0, 0));
        for (int i : new int[] {-1, 1, FAR[0], FAR[1]}) {
            e.refusesAndKeeps(x, "letter " + i, Check.BOUNDS, () -> x.letter(3, i, 0));
            e.refuses("what is wrong too", Check.BOUNDS, () -> x.letter(3, i, 2));
        }
        for (int k : new int[] {-1, 4, FAR[0], FAR[1]}) {
            e.refusesAndKeeps(x, "writer " + k, Check.BOUNDS, () -> x.letter(k, 0, 0));
            e.refuses("what is wrong too", Check.BOUNDS, () -> x.letter(k, 0, -1));
        }
        e.says(9, "Throws IllegalArgumentException if what is neither 0 nor 1");
        for (int what : new int[] {-1, 2, FAR[0], FAR[1]}) {
            e.refusesAndKeeps(x, "what " + what, Check.ARGUMENT, () -> x.letter(3, 0, what));
        }
    }

    private static void numbersOfALetter(Edges e) {
        e.says(9, "what: 0: its signs; 1: the time at which it comes, or came, to the desk");
        HeldNotes x = new HeldNotes();
        x.write(0, 1);
        all(e, "under way", w -> x.letter(0, 0, w), 1, 3);
        x.ticks(11);
        all(e, "it came", w -> x.letter(0, 0, w), 1, 3);
        x.ticks(1);
        e.refuses("it is answered", Check.BOUNDS, () -> x.letter(0, 0, 1));
    }

    private static void notesThatAreNotThere(Edges e) {
        e.says(10, "Throws IndexOutOfBoundsException if there is no such planned note");
        HeldNotes x = new HeldNotes();
        e.refuses("nothing planned yet", Check.BOUNDS, () -> x.planned(0, 0));
        for (int note = 0; note < 8; note++) {
            int i = note;
            x.plan(99 - i, 0, 1 + i);
            e.answers("the last one", 1 + i, () -> x.planned(i, 2));
            e.refuses("the one behind it", Check.BOUNDS, () -> x.planned(i + 1, 2));
        }
        for (int i : new int[] {-1, 8, FAR[0], FAR[1]}) {
            e.refusesAndKeeps(x, "note " + i, Check.BOUNDS, () -> x.planned(i, 0));
            e.refuses("what is wrong too", Check.BOUNDS, () -> x.planned(i, 3));
        }
        e.says(10, "Throws IllegalArgumentException if what is not 0 to 2");
        for (int what : new int[] {-1, 3, FAR[0], FAR[1]}) {
            e.refusesAndKeeps(x, "what " + what, Check.ARGUMENT, () -> x.planned(7, what));
        }
    }

    private static void numbersOfANote(Edges e) {
        HeldNotes x = new HeldNotes();
        x.post(4);
        x.ticks(5);
        x.plan(99, 3, 500);
        x.plan(1, 0, 1);
        x.plan(2, 2, 30);
        e.says(10, "what: 0: its time; 1: its writer; 2: its signs");
        all(e, "the greatest numbers", w -> x.planned(0, w), 104, 3, 500);
        all(e, "the least ones", w -> x.planned(1, w), 6, 0, 1);
        e.says(10, "i: planned note, from 0, in the order in which they were planned");
        all(e, "the third", w -> x.planned(2, w), 7, 2, 30);
        x.ticks(1);
        all(e, "the first stays the first", w -> x.planned(0, w), 104, 3, 500);
        all(e, "the third is the second", w -> x.planned(1, w), 7, 2, 30);
        x.plan(1, 1, 8);
        all(e, "a new one is the last", w -> x.planned(2, w), 7, 1, 8);
        x.ticks(1);
        e.refuses("two of the same time go together", Check.BOUNDS, () -> x.planned(1, 0));
    }

    private static void settings(Edges e) {
        e.says(11, "what: 0 to 3");
        HeldNotes x = TermsEdges.with(9, 20, 99, 6);
        all(e, "setting", x::setting, 9, 20, 99, 6);
        e.says(11, "Throws IllegalArgumentException if what is out of range");
        for (int what : new int[] {-1, 4, FAR[0], FAR[1]}) {
            e.refusesAndKeeps(x, "setting(" + what + ")", Check.ARGUMENT, () -> x.setting(what));
        }
    }
}
