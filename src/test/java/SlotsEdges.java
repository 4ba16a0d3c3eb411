/** Promises 26 and 27: the save slots. */
final class SlotsEdges {
    private static final int[] WRONG = {-1, 2, Integer.MIN_VALUE, Integer.MAX_VALUE};

    private SlotsEdges() {
    }

    static void run(Edges e) {
        slots(e);
        time(e);
        presentState(e);
        noSuchSlot(e);
        restored(e);
        forgets(e);
        keeps(e);
        timeThen(e);
        nothingSaved(e);
    }

    private static void slots(Edges e) {
        e.says(26, "slot: 0 or 1");
        HeldNotes x = new HeldNotes();
        x.ticks(1);
        e.answers("save(0)", 1, () -> x.save(0));
        x.ticks(1);
        e.answers("save(1)", 2, () -> x.save(1));
        e.says(27, "slot: 0 or 1");
        e.answers("restore(0)", 1, () -> x.restore(0));
        e.answers("restore(1)", 2, () -> x.restore(1));
    }

    private static void time(Edges e) {
        e.says(26, "Returns the time.");
        HeldNotes x = new HeldNotes();
        e.answers("at 0", 0, () -> x.save(0));
        x.ticks(99);
        e.answers("at 99", 99, () -> x.save(0));
    }

    private static void presentState(Edges e) {
        e.says(26, "Stores the present state in a save slot.");
        HeldNotes x = new HeldNotes();
        x.write(0, 25);
        x.save(0);
        x.write(0, 1);
        x.save(0);
        x.write(0, 1);
        x.restore(0);
        e.answers("the newer one takes the older one's place", 26, () -> x.writer(0, 3));
        HeldNotes y = new HeldNotes();
        y.ticks(1);
        y.save(0);
        e.answers("save is no action, and forgets nothing", 0, y::undo);
        e.answers("undo does not change the slot", 1, () -> y.restore(0));
    }

    private static void noSuchSlot(Edges e) {
        e.says(26, "Throws IndexOutOfBoundsException if there is no such save slot");
        HeldNotes x = new HeldNotes();
        x.ticks(1);
        for (int slot : WRONG) {
            e.refusesAndKeeps(x, "save(" + slot + ")", Check.BOUNDS, () -> x.save(slot));
        }
        e.says(27, "Throws IndexOutOfBoundsException if there is no such save slot");
        for (int slot : WRONG) {
            e.refusesAndKeeps(x, "restore(" + slot + "), nothing saved", Check.BOUNDS, () -> x.restore(slot));
        }
        x.save(0);
        x.save(1);
        for (int slot : WRONG) {
            e.refusesAndKeeps(x, "restore(" + slot + ")", Check.BOUNDS, () -> x.restore(slot));
        }
        e.answers("a state is still remembered", 0, x::undo);
    }

    private static void restored(Edges e) {
        e.says(27, "Replaces the state by the one in a save slot");
        HeldNotes x = TermsEdges.with(9, 1, 7, 2);
        x.post(3);
        x.hold(1, false);
        x.write(1, 40);
        x.plan(30, 2, 3);
        x.ticks(12);
        x.save(1);
        String saved = Portrait.of(x);
        long later = x.simulate(5, 60);
        x.post(4);
        x.set(0, 1);
        x.set(2, 30);
        x.write(3, 99);
        x.plan(5, 3, 5);
        x.ticks(2);
        e.answers("restore", 12, () -> x.restore(1));
        e.same("all of it", Portrait.of(x), saved);
        e.answers("and what is under way", later, () -> x.simulate(5, 60));
    }

    private static void forgets(Edges e) {
        e.says(27, "and forgets all remembered states.");
        HeldNotes x = new HeldNotes();
        x.save(0);
        for (int i = 0; i < 14; i++) {
            x.ticks(1);
        }
        x.restore(0);
        e.refusesAndKeeps(x, "undo", Check.STATE, x::undo);
        for (int i = 0; i < 15; i++) {
            x.ticks(1);
        }
        e.answers("14 are remembered again", 13, x::undo);
    }

    private static void keeps(Edges e) {
        e.says(27, "The save slot keeps it.");
        HeldNotes x = new HeldNotes();
        x.write(0, 25);
        x.save(1);
        x.save(0);
        for (int i = 0; i < 3; i++) {
            e.answers("restore(1)", 0, () -> x.restore(1));
            e.answers("its signs", 25, () -> x.writer(0, 3));
            x.write(0, 7);
            x.ticks(9);
        }
        e.answers("the other slot too", 0, () -> x.restore(0));
        e.answers("its signs", 25, () -> x.writer(0, 3));
    }

    private static void timeThen(Edges e) {
        e.says(27, "Returns the time then.");
        HeldNotes x = new HeldNotes();
        x.save(0);
        x.ticks(9);
        e.answers("back", 0, () -> x.restore(0));
        x.ticks(9);
        x.save(0);
        x.post(1);
        e.answers("on", 9, () -> x.restore(0));
    }

    private static void nothingSaved(Edges e) {
        e.says(27, "Throws IllegalStateException if nothing has been saved in it since the last load");
        HeldNotes x = new HeldNotes();
        e.refusesAndKeeps(x, "a new object", Check.STATE, () -> x.restore(0));
        e.refusesAndKeeps(x, "a new object", Check.STATE, () -> x.restore(1));
        x.save(1);
        e.refusesAndKeeps(x, "the other one is used", Check.STATE, () -> x.restore(0));
        x.ticks(1);
        x.post(2);
        x.undo();
        e.refusesAndKeeps(x, "actions do not save", Check.STATE, () -> x.restore(0));
        e.answers("nor do they empty a slot", 0, () -> x.restore(1));
        TextTest.type(x, "N1t05");
        x.load();
        e.refusesAndKeeps(x, "behind load", Check.STATE, () -> x.restore(1));
        x.save(0);
        e.answers("saved since the load", 5, () -> x.restore(0));
        e.refusesAndKeeps(x, "not saved since the load", Check.STATE, () -> x.restore(1));
        TextTest.type(x, "N9");
        Check.answer(x::load);
        e.answers("a load that throws empties none", 5, () -> x.restore(0));
    }
}
