/** The sentences of the terms: writers, desks, a tick, settings. */
final class TermsEdges {
    private TermsEdges() {
    }

    static void run(Edges e) {
        writers(e);
        newWriter(e);
        holdsBackAtFirst(e);
        sendsWhileThereAreSigns(e);
        sendsInTheWindow(e);
        sendsFullLetters(e);
        sendsSmallLetters(e);
        travelOfLetters(e);
        newDesk(e);
        answerTellsAll(e);
        travelOfAnswers(e);
        timeOfATick(e);
        plannedNotesOfATick(e);
        orderOfPlannedNotes(e);
        writersInTurn(e);
        secondLetterAtTheDesk(e);
        lettersTogetherAtTheDesk(e);
        deskThatDoesNotWait(e);
        deskTime(e);
        answeredLetters(e);
        sendsIfAnAnswerCame(e);
        heldTick(e);
        settings(e);
        settingsOfThePast(e);
    }

    /** A post of one writer with these settings. */
    static HeldNotes with(int travel, int patience, int full, int window) {
        HeldNotes x = new HeldNotes();
        x.set(0, travel);
        x.set(1, patience);
        x.set(2, full);
        x.set(3, window);
        return x;
    }

    private static void writers(Edges e) {
        e.says(Edges.TERMS, "There are 1 to 4 writers, numbered from 0, at first 1.");
        HeldNotes x = new HeldNotes();
        e.answers("at first", 1, () -> x.about(0));
        for (int writers = 1; writers <= 4; writers++) {
            int n = writers;
            e.answers("post", n, () -> x.post(n));
            e.answers("the first one", 0, () -> x.writer(0, 0));
            e.answers("the last one", 0, () -> x.writer(n - 1, 0));
            e.refuses("the one behind the last", Check.BOUNDS, () -> x.writer(n, 0));
            e.refuses("the one ahead of the first", Check.BOUNDS, () -> x.writer(-1, 0));
        }
        e.refusesAndKeeps(x, "no writers", Check.ARGUMENT, () -> x.post(0));
        e.refusesAndKeeps(x, "five writers", Check.ARGUMENT, () -> x.post(5));
    }

    private static void newWriter(Edges e) {
        e.says(Edges.TERMS, "A writer has signs in an outbox, 0 at first, and letters that are sent and not answered"
                + " yet, in the order in which they were sent");
        HeldNotes x = new HeldNotes();
        x.post(4);
        for (int writer = 0; writer <= 3; writer++) {
            int k = writer;
            e.answers("the outbox", 0, () -> x.writer(k, 0));
            e.answers("unanswered letters", 0, () -> x.writer(k, 1));
            e.refuses("a letter", Check.BOUNDS, () -> x.letter(k, 0, 0));
        }
        x.set(3, 6);
        x.hold(2, false);
        x.write(2, 3);
        x.write(2, 47);
        e.answers("letter 0", 3, () -> x.letter(2, 0, 0));
        e.answers("letter 1", 20, () -> x.letter(2, 1, 0));
        e.answers("letter 3", 7, () -> x.letter(2, 3, 0));
    }

    private static void holdsBackAtFirst(Edges e) {
        e.says(Edges.TERMS, "A writer holds back (at first), or does not.");
        HeldNotes x = new HeldNotes();
        x.post(4);
        for (int writer = 0; writer <= 3; writer++) {
            int k = writer;
            e.answers("at first", 1, () -> x.writer(k, 2));
        }
        x.hold(3, false);
        e.answers("behind hold(3, false)", 0, () -> x.writer(3, 2));
        e.answers("the other ones", 1, () -> x.writer(2, 2));
    }

    private static void sendsWhileThereAreSigns(Edges e) {
        e.says(Edges.TERMS, "as long as there are signs in the outbox");
        HeldNotes x = with(3, 6, 20, 6);
        x.hold(0, false);
        e.answers("none in it", 0, () -> x.flush(0));
        e.answers("one sign", 1, () -> x.write(0, 1));
        e.answers("20 signs are one letter, with none behind it", 1, () -> x.write(0, 20));
        e.answers("40 are two", 2, () -> x.write(0, 40));
        e.answers("none is left", 0, () -> x.writer(0, 0));
        HeldNotes y = with(3, 6, 20, 6);
        y.hold(0, false);
        e.answers("41 are three", 3, () -> y.write(0, 41));
        e.answers("the third", 1, () -> y.letter(0, 2, 0));
    }

    private static void sendsInTheWindow(Edges e) {
        e.says(Edges.TERMS, "and fewer letters are unanswered than setting 3 tells");
        for (int window = 1; window <= 6; window++) {
            int w = window;
            HeldNotes x = with(3, 6, 20, w);
            e.answers("window " + w, w, () -> x.write(0, 500));
            e.answers("as many are unanswered", w, () -> x.writer(0, 1));
            e.answers("so no more are sent", 0, () -> x.flush(0));
        }
        HeldNotes y = with(3, 6, 20, 4);
        y.write(0, 60);
        y.set(3, 2);
        e.answers("more are unanswered than the window", 0, () -> y.write(0, 60));
        y.set(3, 3);
        e.answers("as many are", 0, () -> y.flush(0));
        y.set(3, 4);
        e.answers("one fewer is", 1, () -> y.flush(0));
    }

    private static void sendsFullLetters(Edges e) {
        e.says(Edges.TERMS, "if there are as many signs as setting 2 tells, or more, a letter of so many is sent");
        for (int full : new int[] {4, 20, 99}) {
            for (int more = -1; more <= 1; more++) {
                HeldNotes x = with(3, 6, full, 3);
                x.write(0, 1);
                int signs = full + more;
                String what = signs + " signs, where " + full + " are full";
                e.answers(what, more < 0 ? 0 : 1, () -> x.write(0, signs));
                e.answers(what + ": the outbox", more < 0 ? signs : more, () -> x.writer(0, 0));
                if (more >= 0) {
                    e.answers(what + ": the letter", full, () -> x.letter(0, 1, 0));
                }
            }
        }
        HeldNotes y = with(3, 6, 20, 3);
        e.answers("a full one and the rest that is held", 1, () -> y.write(0, 21));
        e.answers("the first letter, though none was unanswered", 20, () -> y.letter(0, 0, 0));
    }

    private static void sendsSmallLetters(Edges e) {
        e.says(Edges.TERMS, "otherwise, if the writer does not hold back, or no letter is unanswered, a letter of all"
                + " of them is sent; otherwise nothing more is sent now.");
        HeldNotes x = new HeldNotes();
        e.answers("holds back, none is unanswered", 1, () -> x.write(0, 19));
        e.answers("its letter", 19, () -> x.letter(0, 0, 0));
        e.answers("holds back, one is unanswered", 0, () -> x.write(0, 19));
        e.answers("the outbox", 19, () -> x.writer(0, 0));
        e.answers("does not hold back, one is unanswered", 1, () -> x.hold(0, false));
        e.answers("its letter", 19, () -> x.letter(0, 1, 0));
        HeldNotes y = new HeldNotes();
        y.hold(0, false);
        e.answers("does not hold back, none is unanswered", 1, () -> y.write(0, 1));
        e.answers("does not hold back, one is unanswered", 1, () -> y.write(0, 1));
        HeldNotes z = new HeldNotes();
        z.write(0, 20);
        z.ticks(11);
        e.answers("holds back, a letter is answered in the next tick", 0, () -> z.write(0, 1));
        z.ticks(1);
        e.answers("and then the note goes", 0, () -> z.writer(0, 0));
    }

    private static void travelOfLetters(Edges e) {
        e.says(Edges.TERMS, "A letter that is sent comes to the desk setting 0 ticks later, but not ahead of one that"
                + " was sent earlier: if that comes later, both come together.");
        for (int travel : new int[] {1, 9}) {
            HeldNotes x = with(travel, 6, 20, 3);
            x.ticks(1);
            x.write(0, 20);
            e.answers("travel " + travel, 1 + travel, () -> x.letter(0, 0, 1));
            if (travel > 1) {
                e.answers("not ahead of its time", 0, () -> x.ticks(travel - 1));
            }
            e.answers("at its time", 20, () -> x.ticks(1));
        }
        int[] due = {9, 9, 10};
        for (int travel = 3; travel <= 5; travel++) {
            HeldNotes x = with(9, 6, 20, 3);
            x.write(0, 20);
            x.ticks(5);
            x.set(0, travel);
            x.write(0, 20);
            int want = due[travel - 3];
            e.answers("behind one that comes at 9, sent at 5 with " + travel, want, () -> x.letter(0, 1, 1));
            e.answers("both come together or one by one", want == 9 ? 40 : 20, () -> x.ticks(4));
        }
        HeldNotes y = with(9, 6, 20, 3);
        y.write(0, 20);
        y.post(1);
        y.set(0, 1);
        y.write(0, 20);
        e.answers("a letter of another post is none that was sent earlier", 1, () -> y.letter(0, 0, 1));
        HeldNotes z = with(9, 6, 20, 3);
        z.post(2);
        z.write(0, 20);
        z.set(0, 1);
        z.write(1, 20);
        e.answers("nor is one of another writer", 1, () -> z.letter(1, 0, 1));
    }

    private static void newDesk(Edges e) {
        e.says(Edges.TERMS, "It has letters that came and are not answered by it yet, 0 at first, and perhaps a time at"
                + " which it is going to answer.");
        HeldNotes x = new HeldNotes();
        x.post(4);
        for (int writer = 0; writer <= 3; writer++) {
            int k = writer;
            e.answers("letters at first", 0, () -> x.desk(k, 2));
            e.answers("the time at first", HeldNotes.NONE, () -> x.desk(k, 3));
        }
        x.write(1, 5);
        x.ticks(3);
        e.answers("a letter that came", 1, () -> x.desk(1, 2));
        e.answers("the time then", 9, () -> x.desk(1, 3));
        e.answers("the other desks have none", HeldNotes.NONE, () -> x.desk(0, 3));
        e.answers("the other desks have none", 0, () -> x.desk(2, 2));
    }

    private static void answerTellsAll(Edges e) {
        e.says(Edges.TERMS, "To answer means: an answer sets out, which tells how many letters came so far");
        HeldNotes x = with(3, 6, 20, 6);
        x.write(0, 20);
        x.ticks(2);
        x.write(0, 60);
        x.ticks(3);
        e.answers("four came, and a second and a fourth are answered at once", 2, () -> x.desk(0, 4));
        x.write(0, 20);
        x.ticks(3);
        e.answers("letters that came behind it are not told", 4, () -> x.writer(0, 6));
        e.says(Edges.TERMS, "no letters are unanswered by the desk then, and it has no time");
        HeldNotes y = new HeldNotes();
        y.write(0, 20);
        y.ticks(9);
        e.answers("behind an answer at its time", 0, () -> y.desk(0, 2));
        e.answers("it has no time", HeldNotes.NONE, () -> y.desk(0, 3));
        y.write(0, 20);
        y.ticks(2);
        y.write(0, 20);
        y.ticks(1);
        e.answers("a letter gives it a time again", 18, () -> y.desk(0, 3));
        y.ticks(2);
        e.answers("behind an answer to a second letter", 0, () -> y.desk(0, 2));
        e.answers("it has no time", HeldNotes.NONE, () -> y.desk(0, 3));
        y.ticks(10);
        e.answers("so it does not answer once more", 2, () -> y.desk(0, 4));
    }

    private static void travelOfAnswers(Edges e) {
        e.says(Edges.TERMS, "comes to the writer setting 0 ticks later, but likewise not ahead of an answer that set"
                + " out earlier");
        for (int travel : new int[] {1, 9}) {
            HeldNotes x = with(travel, 0, 20, 3);
            x.write(0, 20);
            x.ticks(2 * travel - 1);
            e.answers("travel " + travel + ", a tick ahead", 1, () -> x.desk(0, 5));
            x.ticks(1);
            e.answers("travel " + travel, 1, () -> x.writer(0, 6));
            e.answers("none is under way", 0, () -> x.desk(0, 5));
        }
        for (int travel = 3; travel <= 5; travel++) {
            // The first answer sets out at 9 and comes at 18, the second one sets out at 14.
            HeldNotes x = with(9, 0, 20, 3);
            x.write(0, 20);
            x.ticks(13);
            x.set(0, 1);
            x.write(0, 20);
            x.set(0, travel);
            x.ticks(3);
            e.answers("both under way at 16", 2, () -> x.desk(0, 5));
            x.ticks(1);
            e.answers("and at 17", 2, () -> x.desk(0, 5));
            x.ticks(1);
            e.answers("answered at 18, with " + travel, travel == 5 ? 1 : 2, () -> x.writer(0, 6));
            x.ticks(1);
            e.answers("answered at 19", 2, () -> x.writer(0, 6));
        }
    }

    private static void timeOfATick(Edges e) {
        e.says(Edges.TERMS, "Ticks are counted from 0; the time is the number of ticks so far.");
        HeldNotes x = new HeldNotes();
        e.answers("at first", 0, () -> x.about(1));
        x.ticks(1);
        e.answers("behind a tick", 1, () -> x.about(1));
        e.says(Edges.TERMS, "The time becomes 1 more.");
        x.ticks(1);
        e.answers("behind another one", 2, () -> x.about(1));
        x.ticks(99);
        e.answers("behind 99 more", 101, () -> x.about(1));
    }

    private static void plannedNotesOfATick(Edges e) {
        e.says(Edges.TERMS, "The planned notes whose time this is are written");
        HeldNotes x = new HeldNotes();
        x.plan(1, 0, 20);
        x.plan(2, 0, 21);
        e.answers("none yet", 0, () -> x.writer(0, 3));
        x.ticks(1);
        e.answers("the first", 20, () -> x.writer(0, 3));
        e.answers("it is sent at this time", 4, () -> x.letter(0, 0, 1));
        e.answers("one is left", 1, () -> x.about(2));
        x.ticks(1);
        e.answers("both", 41, () -> x.writer(0, 3));
        e.answers("none is left", 0, () -> x.about(2));
        e.answers("as by write(): the rest is held back", 1, () -> x.writer(0, 0));
        x.ticks(20);
        e.answers("and never again", 41, () -> x.writer(0, 3));
    }

    private static void orderOfPlannedNotes(Edges e) {
        e.says(Edges.TERMS, "in the order in which they were planned, as by write().");
        HeldNotes x = new HeldNotes();
        x.plan(2, 0, 9);
        x.ticks(1);
        x.plan(1, 0, 5);
        x.plan(1, 0, 3);
        x.ticks(1);
        e.answers("the one that was planned first goes", 9, () -> x.letter(0, 0, 0));
        e.answers("the others are held", 8, () -> x.writer(0, 0));
        HeldNotes y = new HeldNotes();
        y.plan(1, 0, 3);
        y.plan(1, 0, 9);
        y.ticks(1);
        e.answers("the other way about", 3, () -> y.letter(0, 0, 0));
    }

    private static void writersInTurn(Edges e) {
        e.says(Edges.TERMS, "Then for each writer, from 0 on:");
        HeldNotes x = new HeldNotes();
        x.post(4);
        for (int k = 0; k <= 3; k++) {
            x.write(k, 10 + k);
        }
        e.answers("the letters of all come", 46, () -> x.ticks(3));
        e.answers("the first desk has its time", 9, () -> x.desk(0, 3));
        e.answers("the last desk too", 9, () -> x.desk(3, 3));
    }

    private static void secondLetterAtTheDesk(Edges e) {
        e.says(Edges.TERMS, "Each letter whose time this is comes to the desk, one after the other: it has one letter"
                + " more.");
        HeldNotes x = new HeldNotes();
        x.write(0, 20);
        e.answers("nothing comes ahead of its time", 0, () -> x.ticks(2));
        e.answers("at its time", 20, () -> x.ticks(1));
        e.answers("it has one letter", 1, () -> x.desk(0, 2));
        e.answers("the letter does not come again", 0, () -> x.ticks(1));
        e.says(Edges.TERMS, "If these are 2 then, or setting 1 is 0, it answers; otherwise, if it has no time, its"
                + " time is that of now and setting 1, together.");
        e.answers("one letter is not answered at once", 0, () -> x.desk(0, 4));
        e.answers("its time is 3 and 6", 9, () -> x.desk(0, 3));
        x.write(0, 20);
        x.ticks(3);
        e.answers("the second at 7 is", 1, () -> x.desk(0, 4));
        HeldNotes y = with(3, 20, 20, 3);
        y.write(0, 20);
        y.ticks(3);
        e.answers("the longest that a desk waits", 23, () -> y.desk(0, 3));
        y.ticks(19);
        e.answers("not yet at 22", 0, () -> y.desk(0, 4));
        y.ticks(1);
        e.answers("at 23", 1, () -> y.desk(0, 4));
    }

    private static void lettersTogetherAtTheDesk(Edges e) {
        e.says(Edges.TERMS, "If these are 2 then");
        int[] answers = {0, 1, 1, 2, 2, 3};
        for (int letters = 1; letters <= 6; letters++) {
            HeldNotes x = with(3, 6, 20, 6);
            x.write(0, 20 * letters);
            x.ticks(3);
            int odd = letters % 2;
            e.answers(letters + " together: the answers", answers[letters - 1], () -> x.desk(0, 4));
            e.answers(letters + " together: what waits", odd, () -> x.desk(0, 2));
            e.answers(letters + " together: the time", odd == 1 ? 9 : HeldNotes.NONE, () -> x.desk(0, 3));
        }
    }

    private static void deskThatDoesNotWait(Edges e) {
        e.says(Edges.TERMS, "or setting 1 is 0, it answers");
        HeldNotes x = with(3, 0, 20, 3);
        x.write(0, 20);
        x.ticks(3);
        e.answers("with 0, at once", 1, () -> x.desk(0, 4));
        e.answers("with 0, it has no time", HeldNotes.NONE, () -> x.desk(0, 3));
        HeldNotes y = with(3, 1, 20, 3);
        y.write(0, 20);
        y.ticks(3);
        e.answers("with 1, not at once", 0, () -> y.desk(0, 4));
        e.answers("with 1, a tick later", 4, () -> y.desk(0, 3));
        y.ticks(1);
        e.answers("with 1, at its time", 1, () -> y.desk(0, 4));
    }

    private static void deskTime(Edges e) {
        e.says(Edges.TERMS, "If the desk's time is that of now, it answers.");
        HeldNotes x = new HeldNotes();
        x.write(0, 20);
        x.ticks(8);
        e.answers("a tick ahead of its time", 0, () -> x.desk(0, 4));
        x.ticks(1);
        e.answers("at its time", 1, () -> x.desk(0, 4));
        HeldNotes y = new HeldNotes();
        y.write(0, 20);
        y.ticks(6);
        y.write(0, 20);
        y.ticks(3);
        e.answers("a second letter at this time is answered with the first", 1, () -> y.desk(0, 4));
        y.ticks(3);
        e.answers("both are", 2, () -> y.writer(0, 6));
        HeldNotes z = with(3, 6, 20, 6);
        z.write(0, 20);
        z.ticks(6);
        z.write(0, 40);
        z.ticks(3);
        e.answers("a third one at this time waits anew", 15, () -> z.desk(0, 3));
        e.answers("it alone waits", 1, () -> z.desk(0, 2));
    }

    private static void answeredLetters(Edges e) {
        e.says(Edges.TERMS, "Each answer whose time this is comes to the writer: letters up to as many as it tells are"
                + " answered, which are taken away.");
        HeldNotes x = new HeldNotes();
        x.write(0, 50);
        x.ticks(5);
        e.answers("a tick ahead of its time", 2, () -> x.writer(0, 1));
        x.ticks(1);
        e.answers("two are answered", 2, () -> x.writer(0, 6));
        e.answers("the rest of 10 is sent then", 10, () -> x.letter(0, 0, 0));
        e.refuses("the others are taken away", Check.BOUNDS, () -> x.letter(0, 1, 0));
        HeldNotes y = with(3, 0, 20, 6);
        y.write(0, 120);
        y.ticks(3);
        e.answers("six answers are under way", 6, () -> y.desk(0, 5));
        y.ticks(3);
        e.answers("all come in one tick", 6, () -> y.writer(0, 6));
        e.answers("none is under way", 0, () -> y.desk(0, 5));
        e.answers("none is unanswered", 0, () -> y.writer(0, 1));
    }

    private static void sendsIfAnAnswerCame(Edges e) {
        e.says(Edges.TERMS, "Then, if any answer came, the writer sends.");
        HeldNotes x = new HeldNotes();
        x.write(0, 85);
        x.set(3, 4);
        x.ticks(5);
        e.answers("no answer came by 5", 3, () -> x.writer(0, 4));
        x.ticks(1);
        e.answers("one came at 6", 4, () -> x.writer(0, 4));
        e.answers("5 are held, as two are unanswered", 5, () -> x.writer(0, 0));
        HeldNotes y = new HeldNotes();
        y.write(0, 3);
        y.write(0, 4);
        y.ticks(11);
        e.answers("4 are held until the answer comes", 4, () -> y.writer(0, 0));
        y.ticks(1);
        e.answers("and are sent with it", 0, () -> y.writer(0, 0));
        e.answers("at the time of the answer", 15, () -> y.letter(0, 0, 1));
        HeldNotes z = with(3, 6, 20, 1);
        z.hold(0, false);
        z.write(0, 26);
        z.hold(0, true);
        z.ticks(12);
        e.answers("the rest of 6 goes as none is unanswered", 6, () -> z.letter(0, 0, 0));
    }

    private static void heldTick(Edges e) {
        e.says(Edges.TERMS, "If there are signs in the outbox, the tick counts as one in which the writer was held"
                + " back.");
        HeldNotes x = new HeldNotes();
        x.write(0, 20);
        x.ticks(4);
        e.answers("no signs", 0, () -> x.writer(0, 5));
        x.write(0, 1);
        e.answers("not counted outside of a tick", 0, () -> x.writer(0, 5));
        x.ticks(1);
        e.answers("one sign", 1, () -> x.writer(0, 5));
        x.ticks(6);
        e.answers("each tick to 11", 7, () -> x.writer(0, 5));
        x.ticks(1);
        e.answers("it is sent in the tick 12", 7, () -> x.writer(0, 5));
        HeldNotes y = new HeldNotes();
        y.write(0, 20);
        y.plan(1, 0, 1);
        y.ticks(1);
        e.answers("a planned note that is held counts in its tick", 1, () -> y.writer(0, 5));
    }

    private static void settings(Edges e) {
        e.says(Edges.TERMS, "0: how long a letter or an answer travels, 1 to 9, at first 3; 1: how long a desk waits, 0"
                + " to 20, at first 6; 2: the signs of a full letter, 4 to 99, at first 20; 3: the window, how many"
                + " letters may be unanswered, 1 to 6, at first 3.");
        int[][] lowestHighestFirst = {{1, 9, 3}, {0, 20, 6}, {4, 99, 20}, {1, 6, 3}};
        HeldNotes x = new HeldNotes();
        for (int what = 0; what <= 3; what++) {
            int w = what;
            int[] due = lowestHighestFirst[w];
            e.answers("at first, " + w, due[2], () -> x.setting(w));
            e.answers("the lowest of " + w, due[2], () -> x.set(w, due[0]));
            e.refuses("below the lowest of " + w, Check.ARGUMENT, () -> x.set(w, due[0] - 1));
            e.answers("the highest of " + w, due[0], () -> x.set(w, due[1]));
            e.refuses("above the highest of " + w, Check.ARGUMENT, () -> x.set(w, due[1] + 1));
            e.answers("it is the highest", due[1], () -> x.setting(w));
        }
    }

    private static void settingsOfThePast(Edges e) {
        e.says(Edges.TERMS, "(Letters and answers that are under way, and times of desks, stay as they are when a"
                + " setting changes.)");
        HeldNotes x = new HeldNotes();
        x.write(0, 20);
        x.set(0, 1);
        x.set(2, 4);
        e.answers("a letter's time", 3, () -> x.letter(0, 0, 1));
        e.answers("a letter's signs", 20, () -> x.letter(0, 0, 0));
        x.ticks(3);
        e.answers("a desk's time", 9, () -> x.desk(0, 3));
        x.set(1, 0);
        e.answers("a desk's time, though desks do not wait now", 9, () -> x.desk(0, 3));
        x.set(1, 1);
        x.ticks(5);
        e.answers("it does not answer earlier", 0, () -> x.desk(0, 4));
        x.set(0, 9);
        x.ticks(1);
        x.set(0, 1);
        x.ticks(8);
        e.answers("an answer is under way at 17", 1, () -> x.desk(0, 5));
        x.ticks(1);
        e.answers("it comes at 18", 1, () -> x.writer(0, 6));
    }
}
