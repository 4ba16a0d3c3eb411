import java.util.function.Supplier;
import java.util.function.ToLongFunction;

/** The sentences on actions, undo and exceptions, and what must change nothing. */
final class StatesEdges {
    private StatesEdges() {
    }

    static void run(Edges e) {
        whatIsAState(e);
        whatIsAnAction(e);
        whatIsNone(e);
        rememberedAhead(e);
        fourteenStates(e);
        loadAndRestore(e);
        thingsThatDoNotExist(e);
        argumentsOutOfRange(e);
        whatTheMethodSays(e);
        namedFirst(e);
        refusedCallsChangeNothing(e);
        looksChangeNothing(e);
        lookAheadsChangeNothing(e);
    }

    /**
     * Two writers, the first with an outbox to which 500 can't be added, eight planned notes, a full
     * text that is no post, 14 remembered states and one save slot that is used.
     */
    static HeldNotes full() {
        HeldNotes x = ActionsEdges.almostFull();
        x.ticks(1);
        x.save(0);
        for (int i = 1; i <= 8; i++) {
            x.plan(10 * i, i % 2, 60 * i);
        }
        x.hold(1, false);
        x.write(1, 7);
        TextTest.type(x, "N2" + "f0".repeat(58) + "w0");
        return x;
    }

    /** Nothing is remembered, a save slot is used, and the text is a post. */
    private static HeldNotes restored() {
        HeldNotes x = new HeldNotes();
        x.write(0, 25);
        x.ticks(4);
        x.save(1);
        x.restore(1);
        TextTest.type(x, "N2w0005w1006f1w1007t01");
        return x;
    }

    private static void whatIsAState(Edges e) {
        e.says(Edges.TERMS, "which consists of everything but the text and the save slots");
        HeldNotes x = new HeldNotes();
        x.write(0, 25);
        x.ticks(4);
        String before = Portrait.of(x);
        x.post(2);
        x.set(0, 9);
        x.set(3, 1);
        x.plan(9, 1, 9);
        x.write(1, 9);
        x.save(1);
        x.append('N');
        for (int i = 0; i < 5; i++) {
            x.undo();
        }
        e.answers("the text stays", 1, x::clearText);
        e.same("all else is brought back", Portrait.of(x), before);
        e.answers("the save slot stays", 0, () -> x.restore(1));
        e.answers("with what was saved", 9, () -> x.writer(1, 3));
        e.answers("and the settings are of the state", 9, () -> x.setting(0));
    }

    private static void whatIsAnAction(Edges e) {
        e.says(Edges.TERMS, "Each call of one of them that does not throw an exception is an action, also if nothing"
                + " becomes different (undo is none).");
        HeldNotes x = new HeldNotes();
        x.post(1);
        x.hold(0, true);
        x.flush(0);
        x.set(0, 3);
        x.ticks(1);
        x.plan(1, 0, 1);
        x.write(0, 1);
        for (int left = 6; left >= 0; left--) {
            e.answers("seven actions", left, x::undo);
        }
        e.refuses("no more", Check.STATE, x::undo);
        x.ticks(1);
        x.ticks(1);
        x.undo();
        e.answers("undo is none", 0, x::undo);
    }

    private static void whatIsNone(Edges e) {
        e.says(Edges.TERMS, "that does not throw an exception is an action");
        HeldNotes x = new HeldNotes();
        x.ticks(2);
        Check.answer(() -> x.post(0));
        Check.answer(() -> x.post(5));
        Check.answer(() -> x.write(0, 0));
        Check.answer(() -> x.write(1, 1));
        Check.answer(() -> x.plan(0, 0, 1));
        Check.answer(() -> x.plan(1, 1, 1));
        Check.answer(() -> x.hold(1, true));
        Check.answer(() -> x.flush(1));
        Check.answer(() -> x.ticks(0));
        Check.answer(() -> x.ticks(100));
        Check.answer(() -> x.set(0, 0));
        Check.answer(() -> x.set(4, 1));
        e.answers("none of these is one", 0, x::undo);
        e.answers("the time", 0, () -> x.about(1));
        Check.answer(x::undo);
        x.ticks(3);
        e.answers("nor an undo that throws", 0, x::undo);
    }

    private static void rememberedAhead(Edges e) {
        e.says(Edges.TERMS, "Before each action, the state is remembered.");
        HeldNotes x = new HeldNotes();
        x.ticks(5);
        x.ticks(7);
        x.undo();
        e.answers("the time ahead of the second", 5, () -> x.about(1));
        x.ticks(1);
        x.undo();
        x.undo();
        e.answers("the time ahead of the first", 0, () -> x.about(1));
    }

    private static void fourteenStates(Edges e) {
        e.says(Edges.TERMS, "At most 14 states are remembered; when one more is remembered, the oldest one is"
                + " forgotten.");
        for (int actions : new int[] {13, 14, 15, 27, 28, 29, 43}) {
            HeldNotes x = new HeldNotes();
            for (int i = 0; i < actions; i++) {
                x.ticks(1);
            }
            int kept = actions < 14 ? actions : 14;
            for (int i = 1; i <= kept; i++) {
                e.answers(actions + " actions", kept - i, x::undo);
                e.answers(actions + " actions, the time", actions - i, () -> x.about(1));
            }
            e.refusesAndKeeps(x, actions + " actions, one more", Check.STATE, x::undo);
        }
        HeldNotes y = new HeldNotes();
        for (int i = 0; i < 20; i++) {
            y.ticks(1);
        }
        e.answers("back by one", 13, y::undo);
        y.ticks(5);
        e.answers("and on by one: again 14", 13, y::undo);
        e.answers("the one ahead of it", 12, y::undo);
        e.answers("the time", 18, () -> y.about(1));
    }

    private static void loadAndRestore(Edges e) {
        e.says(Edges.TERMS, "load and restore are not actions.");
        HeldNotes x = restored();
        e.refuses("restore", Check.STATE, x::undo);
        x.load();
        e.refuses("load", Check.STATE, x::undo);
    }

    private static void thingsThatDoNotExist(Edges e) {
        e.says(Edges.TERMS, "IndexOutOfBoundsException means that a writer, a letter or a planned note does not exist,"
                + " or that a save slot is not 0 or 1.");
        HeldNotes x = full();
        for (int k : new int[] {-1, 2, 3, 4, Integer.MIN_VALUE, Integer.MAX_VALUE}) {
            e.refuses("writer", Check.BOUNDS, () -> x.writer(k, 0));
            e.refuses("desk", Check.BOUNDS, () -> x.desk(k, 0));
            e.refuses("letter", Check.BOUNDS, () -> x.letter(k, 0, 0));
            e.refuses("write", Check.BOUNDS, () -> x.write(k, 1));
            e.refuses("plan", Check.BOUNDS, () -> x.plan(1, k, 1));
            e.refuses("hold", Check.BOUNDS, () -> x.hold(k, true));
            e.refuses("flush", Check.BOUNDS, () -> x.flush(k));
            e.refuses("doneIn", Check.BOUNDS, () -> x.doneIn(k));
            e.refuses("thereIn", Check.BOUNDS, () -> x.thereIn(k, 1));
            e.refuses("ifHeld", Check.BOUNDS, () -> x.ifHeld(k, 0));
            e.refuses("best", Check.BOUNDS, () -> x.best(1, k));
            e.refuses("save", Check.BOUNDS, () -> x.save(k));
            e.refuses("restore", Check.BOUNDS, () -> x.restore(k));
        }
        e.refuses("a letter", Check.BOUNDS, () -> x.letter(0, 3, 0));
        e.refuses("a planned note", Check.BOUNDS, () -> x.planned(8, 0));
    }

    private static void argumentsOutOfRange(Edges e) {
        e.says(Edges.TERMS, "IllegalArgumentException means that another argument is out of its range.");
        HeldNotes x = restored();
        for (int v : new int[] {-1, 256, Integer.MIN_VALUE, Integer.MAX_VALUE}) {
            e.refuses("append", Check.ARGUMENT, () -> x.append(v));
            e.refuses("about", Check.ARGUMENT, () -> x.about(v));
            e.refuses("writer", Check.ARGUMENT, () -> x.writer(0, v));
            e.refuses("desk", Check.ARGUMENT, () -> x.desk(0, v));
            e.refuses("letter", Check.ARGUMENT, () -> x.letter(0, 0, v));
            e.refuses("setting", Check.ARGUMENT, () -> x.setting(v));
            e.refuses("post", Check.ARGUMENT, () -> x.post(v));
            e.refuses("ticks", Check.ARGUMENT, () -> x.ticks(v));
            e.refuses("set", Check.ARGUMENT, () -> x.set(v, 5));
            e.refuses("set", Check.ARGUMENT, () -> x.set(1, v));
            e.refuses("plan", Check.ARGUMENT, () -> x.plan(v, 0, 1));
            e.refuses("ifHeld", Check.ARGUMENT, () -> x.ifHeld(0, v));
            e.refuses("best", Check.ARGUMENT, () -> x.best(v, 0));
            e.refuses("runScript", Check.ARGUMENT, () -> x.runScript(v, 0));
            e.refuses("simulate", Check.ARGUMENT, () -> x.simulate(0, v));
        }
    }

    private static void whatTheMethodSays(Edges e) {
        e.says(Edges.TERMS, "IllegalStateException means what the method says.");
        HeldNotes x = full();
        e.refuses("append to 120 characters", Check.STATE, () -> x.append('0'));
        e.refuses("load of no post", Check.STATE, x::load);
        e.refuses("write of too many signs", Check.STATE, () -> x.write(0, 500));
        e.refuses("plan with eight", Check.STATE, () -> x.plan(1, 0, 1));
        e.refuses("restore of an empty slot", Check.STATE, () -> x.restore(1));
        HeldNotes y = new HeldNotes();
        e.refuses("undo with none remembered", Check.STATE, y::undo);
    }

    private static void namedFirst(Edges e) {
        e.says(Edges.TERMS, "If several exceptions apply to a call, the one that its description names first is"
                + " thrown.");
        HeldNotes x = full();
        e.refuses("append: c, 120 characters", Check.ARGUMENT, () -> x.append(256));
        e.refuses("writer: k, what", Check.BOUNDS, () -> x.writer(2, 7));
        e.refuses("desk: k, what", Check.BOUNDS, () -> x.desk(-1, 6));
        e.refuses("letter: k, what", Check.BOUNDS, () -> x.letter(2, 0, 2));
        e.refuses("letter: i, what", Check.BOUNDS, () -> x.letter(0, 3, -1));
        e.refuses("planned: i, what", Check.BOUNDS, () -> x.planned(8, 3));
        e.refuses("write: k, signs", Check.BOUNDS, () -> x.write(2, 0));
        e.refuses("write: signs, the outbox", Check.ARGUMENT, () -> x.write(0, 501));
        e.refuses("plan: k, in", Check.BOUNDS, () -> x.plan(0, 2, 1));
        e.refuses("plan: k, signs", Check.BOUNDS, () -> x.plan(1, -1, 0));
        e.refuses("plan: k, eight", Check.BOUNDS, () -> x.plan(1, 2, 1));
        e.refuses("plan: in, eight", Check.ARGUMENT, () -> x.plan(100, 0, 1));
        e.refuses("plan: signs, eight", Check.ARGUMENT, () -> x.plan(1, 0, 501));
        e.refuses("plan: k, in, signs, eight", Check.BOUNDS, () -> x.plan(0, 2, 0));
        e.refuses("thereIn: k, signs", Check.BOUNDS, () -> x.thereIn(2, 0));
        e.refuses("ifHeld: k, what", Check.BOUNDS, () -> x.ifHeld(2, 4));
        e.refuses("best: k, what", Check.BOUNDS, () -> x.best(3, 2));
        e.refuses("restore: the slot, nothing saved", Check.BOUNDS, () -> x.restore(2));
    }

    private static void refused(Edges e, String call, Supplier<HeldNotes> make, ToLongFunction<HeldNotes> run) {
        HeldNotes x = make.get();
        e.same(call + " throws", Check.answer(() -> run.applyAsLong(x)).startsWith("throws") ? 1 : 0, 1);
        e.keepsAll(call, make, run);
    }

    private static void refusedCallsChangeNothing(Edges e) {
        e.says(Edges.TERMS, "A call that throws an exception changes nothing.");
        Supplier<HeldNotes> make = StatesEdges::full;
        refused(e, "append", make, x -> x.append(256));
        refused(e, "append", make, x -> x.append('5'));
        refused(e, "load", make, HeldNotes::load);
        refused(e, "post", make, x -> x.post(5));
        refused(e, "write", make, x -> x.write(2, 1));
        refused(e, "write", make, x -> x.write(0, 0));
        refused(e, "write", make, x -> x.write(0, 60));
        refused(e, "plan", make, x -> x.plan(1, 2, 1));
        refused(e, "plan", make, x -> x.plan(0, 0, 1));
        refused(e, "plan", make, x -> x.plan(1, 0, 1));
        refused(e, "hold", make, x -> x.hold(2, false));
        refused(e, "flush", make, x -> x.flush(-1));
        refused(e, "ticks", make, x -> x.ticks(100));
        refused(e, "set", make, x -> x.set(4, 1));
        refused(e, "set", make, x -> x.set(0, 10));
        refused(e, "save", make, x -> x.save(2));
        refused(e, "restore", make, x -> x.restore(1));
        refused(e, "restore", make, x -> x.restore(-1));
        refused(e, "undo", StatesEdges::restored, HeldNotes::undo);
        refused(e, "restore", StatesEdges::restored, x -> x.restore(0));
        refused(e, "doneIn", make, x -> x.doneIn(2));
        refused(e, "thereIn", make, x -> x.thereIn(0, 501));
        refused(e, "ifHeld", make, x -> x.ifHeld(0, 4));
        refused(e, "best", make, x -> x.best(3, 0));
        refused(e, "runScript", make, x -> x.runScript(1, 100000));
        refused(e, "simulate", make, x -> x.simulate(0, 61));
    }

    private static void looksChangeNothing(Edges e) {
        e.says(6, "Returns that number.");
        Supplier<HeldNotes> make = StatesEdges::full;
        e.keepsAll("errorPosition", make, HeldNotes::errorPosition);
        e.keepsAll("errorPosition of a post", StatesEdges::restored, HeldNotes::errorPosition);
        e.keepsAll("about", make, x -> x.about(8));
        e.keepsAll("writer", make, x -> x.writer(0, 0));
        e.keepsAll("desk", make, x -> x.desk(0, 0));
        e.keepsAll("letter", make, x -> x.letter(0, 0, 0));
        e.keepsAll("planned", make, x -> x.planned(0, 0));
        e.keepsAll("setting", make, x -> x.setting(0));
    }

    private static void lookAheadsChangeNothing(Edges e) {
        e.says(Edges.TERMS, "these and all following methods up to the save slots change nothing.");
        for (int i = 0; i <= 1; i++) {
            Supplier<HeldNotes> make = i == 0 ? StatesEdges::full : StatesEdges::restored;
            e.keepsAll("doneIn", make, x -> x.doneIn(0));
            e.keepsAll("thereIn", make, x -> x.thereIn(0, 59));
            e.keepsAll("thereIn, too many signs", make, x -> x.thereIn(0, 500));
            for (int what = 0; what <= 3; what++) {
                int w = what;
                e.keepsAll("ifHeld", make, x -> x.ifHeld(0, w));
            }
            e.keepsAll("best", make, x -> x.best(1, 0));
            e.keepsAll("best", make, x -> x.best(2, 0));
            e.keepsAll("runScript", make, x -> x.runScript(3, 100592009940000L));
            e.keepsAll("runScript", make, x -> x.runScript(3, 300005200480400L));
            e.keepsAll("simulate", make, x -> x.simulate(7, 60));
        }
        HeldNotes x = full();
        long before = x.simulate(7, 60);
        x.doneIn(1);
        x.best(1, 1);
        x.simulate(8, 60);
        e.answers("nor one another", before, () -> x.simulate(7, 60));
    }
}
