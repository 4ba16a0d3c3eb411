/** Promises 12 to 19: the actions one by one. */
final class ActionsEdges {
    private static final int[] FAR = {Integer.MIN_VALUE, Integer.MAX_VALUE};

    private ActionsEdges() {
    }

    static void run(Edges e) {
        post(e);
        postAsAtFirst(e);
        writtenNotes(e);
        lettersSentByANote(e);
        writersOfNotes(e);
        signsOfNotes(e);
        fullOutbox(e);
        lostNotes(e);
        plannedTicks(e);
        plannedWriters(e);
        plannedSigns(e);
        plannedEight(e);
        hold(e);
        flush(e);
        ticks(e);
        signsOfTicks(e);
        lastTime(e);
        settings(e);
        noWriterSendsBySet(e);
        undo(e);
        undoOfNothing(e);
    }

    /** A post of two writers, of which the first has 9940 signs in the outbox. */
    static HeldNotes almostFull() {
        HeldNotes x = new HeldNotes();
        x.post(2);
        for (int i = 0; i < 20; i++) {
            x.write(0, 500);
        }
        return x;
    }

    private static void post(Edges e) {
        e.says(12, "writers: 1 to 4");
        HeldNotes x = new HeldNotes();
        for (int writers = 1; writers <= 4; writers++) {
            int n = writers;
            e.says(12, "Returns the writers.");
            e.answers("post(" + n + ")", n, () -> x.post(n));
            e.answers("about(0)", n, () -> x.about(0));
        }
        e.says(12, "Throws IllegalArgumentException if writers is out of range");
        for (int n : new int[] {0, 5, -1, FAR[0], FAR[1]}) {
            e.refusesAndKeeps(x, "post(" + n + ")", Check.ARGUMENT, () -> x.post(n));
        }
    }

    private static void postAsAtFirst(Edges e) {
        e.says(12, "Makes another post with so many writers, all as at first; the settings stay, the time is 0, nothing"
                + " is planned, all counts are 0.");
        for (int writers = 1; writers <= 4; writers++) {
            HeldNotes fresh = TermsEdges.with(9, 0, 99, 1);
            fresh.post(writers);
            HeldNotes x = TermsEdges.with(3, 6, 20, 3);
            x.post(4);
            for (int k = 0; k < 4; k++) {
                x.hold(k, k % 2 == 0);
                x.write(k, 45);
            }
            x.plan(90, 3, 5);
            x.plan(90, 0, 5);
            x.ticks(9);
            x.set(0, 9);
            x.set(1, 0);
            x.set(2, 99);
            x.set(3, 1);
            x.post(writers);
            e.same("the post", Portrait.of(x), Portrait.of(fresh));
            e.answers("nothing comes of what was under way", 0, () -> x.ticks(99));
        }
        HeldNotes y = new HeldNotes();
        y.post(1);
        e.same("behind nothing else", Portrait.of(y), Portrait.of(new HeldNotes()));
        y.write(0, 3);
        y.post(1);
        e.answers("post is an action that can be taken back", 2, y::undo);
        e.answers("with all that was there", 3, () -> y.writer(0, 3));
    }

    private static void writtenNotes(Edges e) {
        e.says(13, "A writer writes a note: its signs come to the outbox; then the writer sends.");
        HeldNotes x = new HeldNotes();
        x.write(0, 19);
        x.write(0, 19);
        e.answers("19 are in the outbox", 19, () -> x.writer(0, 0));
        e.answers("and go with one more", 1, () -> x.write(0, 1));
        e.answers("none is left", 0, () -> x.writer(0, 0));
        e.answers("39 are written", 39, () -> x.writer(0, 3));
    }

    private static void lettersSentByANote(Edges e) {
        e.says(13, "Returns the letters that are sent by it.");
        HeldNotes x = TermsEdges.with(3, 6, 20, 6);
        e.answers("one", 1, () -> x.write(0, 1));
        e.answers("none", 0, () -> x.write(0, 19));
        e.answers("two", 2, () -> x.write(0, 30));
        e.answers("as many as the window has room for", 3, () -> x.write(0, 500));
        e.answers("none more", 0, () -> x.write(0, 500));
        HeldNotes y = TermsEdges.with(3, 6, 4, 6);
        e.answers("the most", 6, () -> y.write(0, 500));
    }

    private static void writersOfNotes(Edges e) {
        e.says(13, "Throws IndexOutOfBoundsException if there is no such writer");
        HeldNotes x = almostFull();
        for (int k : new int[] {-1, 2, 4, FAR[0], FAR[1]}) {
            e.refusesAndKeeps(x, "writer " + k, Check.BOUNDS, () -> x.write(k, 1));
            e.refuses("signs that are out of range too", Check.BOUNDS, () -> x.write(k, 0));
            e.refuses("signs that are too many for the first", Check.BOUNDS, () -> x.write(k, 500));
        }
        e.answers("the last writer", 1, () -> x.write(1, 1));
    }

    private static void signsOfNotes(Edges e) {
        e.says(13, "signs: 1 to 500");
        HeldNotes x = new HeldNotes();
        e.answers("the least", 1, () -> x.write(0, 1));
        e.answers("the most", 2, () -> x.write(0, 500));
        e.answers("all are written", 501, () -> x.writer(0, 3));
        e.says(13, "Throws IllegalArgumentException if signs is out of range");
        HeldNotes y = almostFull();
        for (int signs : new int[] {0, 501, -1, FAR[0], FAR[1]}) {
            e.refusesAndKeeps(x, "write(0, " + signs + ")", Check.ARGUMENT, () -> x.write(0, signs));
            e.refuses("to an outbox that is too full too", Check.ARGUMENT, () -> y.write(0, signs));
        }
    }

    private static void fullOutbox(Edges e) {
        e.says(13, "Throws IllegalStateException if the outbox would have more than 9999 signs");
        HeldNotes x = almostFull();
        e.refusesAndKeeps(x, "9940 and 500", Check.STATE, () -> x.write(0, 500));
        e.refusesAndKeeps(x, "9940 and 60", Check.STATE, () -> x.write(0, 60));
        e.answers("9940 and 59", 0, () -> x.write(0, 59));
        e.answers("it is full", 9999, () -> x.writer(0, 0));
        e.refusesAndKeeps(x, "9999 and 1", Check.STATE, () -> x.write(0, 1));
        x.set(3, 6);
        e.refusesAndKeeps(x, "though letters could be sent", Check.STATE, () -> x.write(0, 1));
        e.answers("the other writer's is another one", 6, () -> x.write(1, 500));
        e.answers("three letters make room for 60", 3, () -> x.flush(0));
        e.refusesAndKeeps(x, "9939 and 61", Check.STATE, () -> x.write(0, 61));
        e.answers("9939 and 60", 0, () -> x.write(0, 60));
    }

    private static void lostNotes(Edges e) {
        e.says(14, "(When its time comes, and the outbox would have more than 9999 signs, it is lost.)");
        HeldNotes x = almostFull();
        x.plan(1, 0, 60);
        x.plan(1, 0, 59);
        x.plan(1, 0, 1);
        x.plan(1, 1, 7);
        e.answers("each is planned", 4, () -> x.about(2));
        x.ticks(1);
        e.answers("10000 are too many, 9999 are not, and one more is", 9999, () -> x.writer(0, 0));
        e.answers("what is lost is not written", 10059, () -> x.writer(0, 3));
        e.answers("none is planned any more", 0, () -> x.about(2));
        e.answers("the note of the other writer is not lost", 7, () -> x.writer(1, 3));
        x.ticks(5);
        e.answers("what is lost does not come later", 10059, () -> x.writer(0, 3));
    }

    private static void plannedTicks(Edges e) {
        e.says(14, "in: in how many ticks, 1 to 99");
        HeldNotes x = new HeldNotes();
        x.ticks(3);
        x.plan(1, 0, 20);
        x.plan(99, 0, 20);
        e.answers("the least", 4, () -> x.planned(0, 0));
        e.answers("the most", 102, () -> x.planned(1, 0));
        x.ticks(1);
        e.answers("the first is written at 4", 20, () -> x.writer(0, 3));
        x.ticks(97);
        e.answers("the second not at 101", 20, () -> x.writer(0, 3));
        x.ticks(1);
        e.answers("but at 102", 40, () -> x.writer(0, 3));
        e.says(14, "Throws IllegalArgumentException if another argument is out of range");
        for (int in : new int[] {0, 100, -1, FAR[0], FAR[1]}) {
            e.refusesAndKeeps(x, "plan(" + in + ", 0, 1)", Check.ARGUMENT, () -> x.plan(in, 0, 1));
        }
    }

    private static void plannedWriters(Edges e) {
        e.says(14, "Throws IndexOutOfBoundsException if there is no such writer");
        HeldNotes x = new HeldNotes();
        x.post(3);
        for (int k : new int[] {-1, 3, 4, FAR[0], FAR[1]}) {
            e.refusesAndKeeps(x, "writer " + k, Check.BOUNDS, () -> x.plan(1, k, 1));
            e.refuses("ticks that are out of range too", Check.BOUNDS, () -> x.plan(0, k, 1));
            e.refuses("signs that are out of range too", Check.BOUNDS, () -> x.plan(1, k, 501));
        }
        e.answers("the last writer", 1, () -> x.plan(1, 2, 1));
    }

    private static void plannedSigns(Edges e) {
        e.says(14, "signs: 1 to 500");
        HeldNotes x = new HeldNotes();
        x.plan(1, 0, 1);
        x.plan(1, 0, 500);
        e.answers("the least", 1, () -> x.planned(0, 2));
        e.answers("the most", 500, () -> x.planned(1, 2));
        e.says(14, "if another argument is out of range");
        for (int signs : new int[] {0, 501, -1, FAR[0], FAR[1]}) {
            e.refusesAndKeeps(x, "plan(1, 0, " + signs + ")", Check.ARGUMENT, () -> x.plan(1, 0, signs));
        }
        x.ticks(1);
        e.answers("both are written", 501, () -> x.writer(0, 3));
    }

    private static void plannedEight(Edges e) {
        e.says(14, "Returns how many are planned then.");
        HeldNotes x = new HeldNotes();
        for (int n = 1; n <= 8; n++) {
            int in = n;
            e.answers("plan", n, () -> x.plan(in, 0, 20));
        }
        e.says(14, "Throws IllegalStateException if 8 are planned");
        e.refusesAndKeeps(x, "a ninth", Check.STATE, () -> x.plan(1, 0, 20));
        e.refuses("ticks that are out of range too", Check.ARGUMENT, () -> x.plan(100, 0, 20));
        e.refuses("signs that are out of range too", Check.ARGUMENT, () -> x.plan(1, 0, 0));
        e.refuses("a writer that is not there too", Check.BOUNDS, () -> x.plan(1, 1, 20));
        x.ticks(1);
        e.answers("when one of them is written", 8, () -> x.plan(99, 0, 20));
        e.refusesAndKeeps(x, "and a ninth again", Check.STATE, () -> x.plan(1, 0, 20));
        x.undo();
        e.answers("seven are left", 7, () -> x.about(2));
    }

    private static void hold(Edges e) {
        e.says(15, "A writer holds back from now on, or does not; then the writer sends.");
        HeldNotes x = TermsEdges.with(3, 6, 20, 6);
        x.post(2);
        x.write(0, 1);
        x.write(0, 2);
        e.answers("holds back as before", 0, () -> x.hold(0, true));
        e.answers("does not", 1, () -> x.hold(0, false));
        e.answers("does not as before", 0, () -> x.hold(0, false));
        e.answers("from now on", 1, () -> x.write(0, 3));
        e.answers("holds back again", 0, () -> x.hold(0, true));
        e.answers("from now on", 0, () -> x.write(0, 4));
        x.set(2, 4);
        e.answers("a letter that is full now goes though it holds back", 1, () -> x.hold(0, true));
        e.says(15, "Returns the letters that are sent by it.");
        x.post(1);
        e.answers("none", 0, () -> x.hold(0, false));
        x.write(0, 500);
        e.answers("none in a full window", 0, () -> x.hold(0, false));
        x.ticks(6);
        e.answers("all are sent by the tick", 12, () -> x.writer(0, 4));
        e.says(15, "Throws IndexOutOfBoundsException if there is no such writer");
        for (int k : new int[] {-1, 1, 4, FAR[0], FAR[1]}) {
            e.refusesAndKeeps(x, "hold(" + k + ", true)", Check.BOUNDS, () -> x.hold(k, true));
            e.refusesAndKeeps(x, "hold(" + k + ", false)", Check.BOUNDS, () -> x.hold(k, false));
        }
    }

    private static void flush(Edges e) {
        e.says(16, "A writer sends now, all letters that can be, as if not holding back.");
        HeldNotes x = new HeldNotes();
        x.post(2);
        e.answers("nothing there yet", 0, () -> x.flush(1));
        x.write(1, 21);
        e.answers("one sign that is held", 1, () -> x.flush(1));
        e.answers("its letter", 1, () -> x.letter(1, 1, 0));
        e.answers("the writer holds back as before", 1, () -> x.writer(1, 2));
        x.write(1, 19);
        e.answers("the last of the window", 1, () -> x.flush(1));
        x.write(1, 100);
        e.answers("none in a full window", 0, () -> x.flush(1));
        x.set(3, 6);
        e.says(16, "Returns the letters that are sent by it.");
        e.answers("as many as the wider one has room for", 3, () -> x.flush(1));
        e.says(16, "Throws IndexOutOfBoundsException if there is no such writer");
        for (int k : new int[] {-1, 2, 4, FAR[0], FAR[1]}) {
            e.refusesAndKeeps(x, "flush(" + k + ")", Check.BOUNDS, () -> x.flush(k));
        }
        HeldNotes y = new HeldNotes();
        y.hold(0, false);
        y.flush(0);
        e.answers("a writer that does not hold back goes on so", 0, () -> y.writer(0, 2));
    }

    private static void ticks(Edges e) {
        e.says(17, "n: 1 to 99");
        HeldNotes x = new HeldNotes();
        x.ticks(1);
        e.answers("the least", 1, () -> x.about(1));
        x.ticks(99);
        e.answers("the most", 100, () -> x.about(1));
        e.says(17, "Throws IllegalArgumentException if n is out of range");
        for (int n : new int[] {0, 100, -1, FAR[0], FAR[1]}) {
            e.refusesAndKeeps(x, "ticks(" + n + ")", Check.ARGUMENT, () -> x.ticks(n));
        }
    }

    private static void signsOfTicks(Edges e) {
        e.says(17, "Returns the signs that come to desks in them.");
        HeldNotes x = new HeldNotes();
        x.post(4);
        e.answers("nothing under way", 0, () -> x.ticks(1));
        for (int k = 0; k < 4; k++) {
            x.write(k, 10);
        }
        e.answers("ahead of their time", 0, () -> x.ticks(2));
        e.answers("of all writers", 40, () -> x.ticks(1));
        e.answers("behind it", 0, () -> x.ticks(1));
        x.write(0, 500);
        e.answers("of letters that are sent in these ticks too", 500, () -> x.ticks(99));
    }

    /** More calls than are promised, as 512 of them do not come to the last time. */
    private static void lastTime(Edges e) {
        e.says(17, "Throws IllegalStateException if the time would be above 99999");
        HeldNotes x = new HeldNotes();
        x.write(0, 3);
        for (int i = 0; i < 1010; i++) {
            x.ticks(99);
        }
        e.answers("the time", 99990, () -> x.about(1));
        e.refusesAndKeeps(x, "to 100000", Check.STATE, () -> x.ticks(10));
        e.refuses("n is out of range too", Check.ARGUMENT, () -> x.ticks(100));
        e.answers("to 99999", 0, () -> x.ticks(9));
        e.refusesAndKeeps(x, "from 99999", Check.STATE, () -> x.ticks(1));
        e.refuses("n is out of range too", Check.ARGUMENT, () -> x.ticks(0));
        x.undo();
        x.save(0);
        e.answers("back from it", 0, () -> x.ticks(8));
        e.refuses("and too far again", Check.STATE, () -> x.ticks(2));
        e.says(Edges.TERMS, "The limit of the time does not matter for them.");
        x.ticks(1);
        x.write(0, 3);
        e.answers("doneIn", 12, () -> x.doneIn(0));
        e.answers("thereIn", 15, () -> x.thereIn(0, 4));
        e.answers("ifHeld", 12, () -> x.ifHeld(0, 0));
        e.answers("best", 0, () -> x.best(1, 0));
        e.answers("runScript", HeldNotes.NONE, () -> x.runScript(3, 200998001260000L));
        HeldNotes y = new HeldNotes();
        y.write(0, 3);
        for (int seed = 0; seed < 9; seed++) {
            int s = seed;
            e.answers("simulate", y.simulate(s, 60), () -> x.simulate(s, 60));
        }
    }

    private static void settings(Edges e) {
        int[] lowest = {1, 0, 4, 1};
        int[] highest = {9, 20, 99, 6};
        int[] first = {3, 6, 20, 3};
        e.says(18, "what: 0 to 3");
        for (int what = 0; what <= 3; what++) {
            int w = what;
            HeldNotes x = new HeldNotes();
            e.says(18, "v: the new value, in its range");
            e.answers("the lowest of " + w, first[w], () -> x.set(w, lowest[w]));
            e.answers("the highest of " + w, lowest[w], () -> x.set(w, highest[w]));
            e.answers("the same again", highest[w], () -> x.set(w, highest[w]));
            e.says(18, "Throws IllegalArgumentException if what or v is out of range");
            for (int v : new int[] {lowest[w] - 1, highest[w] + 1, FAR[0], FAR[1]}) {
                e.refusesAndKeeps(x, "set(" + w + ", " + v + ")", Check.ARGUMENT, () -> x.set(w, v));
            }
            e.answers("the others stay", first[3 - w], () -> x.setting(3 - w));
        }
        HeldNotes y = new HeldNotes();
        for (int what : new int[] {-1, 4, FAR[0], FAR[1]}) {
            e.refusesAndKeeps(y, "set(" + what + ", 5)", Check.ARGUMENT, () -> y.set(what, 5));
            e.refuses("v too", Check.ARGUMENT, () -> y.set(what, -1));
        }
    }

    private static void noWriterSendsBySet(Edges e) {
        e.says(18, "(No writer sends by it.)");
        HeldNotes x = new HeldNotes();
        x.hold(0, false);
        x.write(0, 75);
        x.set(3, 6);
        x.set(2, 4);
        e.answers("neither for the window nor for full letters", 3, () -> x.writer(0, 4));
        e.answers("but by flush() then", 3, () -> x.flush(0));
    }

    private static void undo(Edges e) {
        e.says(19, "Returns how many states are still remembered.");
        HeldNotes x = new HeldNotes();
        for (int n = 1; n <= 15; n++) {
            x.write(0, n);
        }
        e.says(19, "Takes back the last action that is remembered.");
        for (int n = 15; n >= 2; n--) {
            e.answers("of 14 that are remembered", n - 2, x::undo);
            e.answers("the signs ahead of write(0, " + n + ")", n * (n - 1) / 2, () -> x.writer(0, 3));
        }
        e.refuses("the first is forgotten", Check.STATE, x::undo);
    }

    private static void undoOfNothing(Edges e) {
        e.says(19, "Throws IllegalStateException if none is remembered");
        HeldNotes x = new HeldNotes();
        e.refusesAndKeeps(x, "a new object", Check.STATE, x::undo);
        x.ticks(1);
        e.answers("one action", 0, x::undo);
        e.refusesAndKeeps(x, "no action is left", Check.STATE, x::undo);
        x.ticks(1);
        x.save(0);
        x.restore(0);
        e.refusesAndKeeps(x, "behind restore", Check.STATE, x::undo);
        x.ticks(1);
        TextTest.type(x, "N1");
        x.load();
        e.refusesAndKeeps(x, "behind load", Check.STATE, x::undo);
    }
}
