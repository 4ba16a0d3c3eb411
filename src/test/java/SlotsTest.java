/** Promises 26 and 27: the save slots. */
public final class SlotsTest {
    private static final Check CHECK = new Check();

    public static void main(String[] args) {
        promise26();
        promise27();
        promise27KeepsTheSlot();
        CHECK.finish("SlotsTest");
    }

    private static HeldNotes busy() {
        HeldNotes x = new HeldNotes();
        x.post(4);
        x.set(0, 7);
        x.set(2, 11);
        for (int k = 0; k < 4; k++) {
            x.write(k, 30 + k);
            x.plan(9 + k, 3 - k, 5 + k);
        }
        x.hold(2, false);
        x.ticks(12);
        x.write(1, 3);
        return x;
    }

    private static void promise26() {
        HeldNotes x = new HeldNotes();
        CHECK.answers("save at 0", 0, () -> x.save(0));
        x.ticks(37);
        CHECK.answers("save at 37", 37, () -> x.save(1));
        CHECK.keeps(x, "save", () -> x.save(0));
        for (int wrong : new int[] {-1, 2, Integer.MIN_VALUE, Integer.MAX_VALUE}) {
            CHECK.refusesAndKeeps(x, "save(" + wrong + ")", Check.BOUNDS, () -> x.save(wrong));
            CHECK.refusesAndKeeps(x, "restore(" + wrong + ")", Check.BOUNDS, () -> x.restore(wrong));
        }
        CHECK.answers("an action before save can be taken back", 0, x::undo);
    }

    private static void promise27() {
        HeldNotes x = busy();
        CHECK.refusesAndKeeps(x, "restore of an empty slot", Check.STATE, () -> x.restore(0));
        CHECK.refusesAndKeeps(x, "restore of an empty slot", Check.STATE, () -> x.restore(1));
        String saved = Portrait.of(x);
        int later = x.simulate(3, 60);
        x.save(1);
        CHECK.refusesAndKeeps(x, "the other slot is empty", Check.STATE, () -> x.restore(0));
        x.ticks(50);
        x.post(2);
        x.set(0, 1);
        x.write(1, 90);
        CHECK.answers("restore", 12, () -> x.restore(1));
        CHECK.same("the state", Portrait.of(x), saved);
        CHECK.answers("and what becomes of it", later, () -> x.simulate(3, 60));
        CHECK.refuses("no state is remembered", Check.STATE, x::undo);
        x.ticks(1);
        CHECK.answers("one action", 0, x::undo);
        CHECK.same("is taken back", Portrait.of(x), saved);
    }

    private static void promise27KeepsTheSlot() {
        HeldNotes x = busy();
        String first = Portrait.sketch(x);
        x.save(0);
        x.ticks(20);
        String second = Portrait.sketch(x);
        x.save(1);
        x.ticks(20);
        CHECK.answers("restore(0)", 12, () -> x.restore(0));
        CHECK.same("the first state", Portrait.sketch(x), first);
        x.ticks(99);
        x.undo();
        x.post(1);
        CHECK.answers("restore(0) again", 12, () -> x.restore(0));
        CHECK.same("the first state again", Portrait.sketch(x), first);
        CHECK.answers("restore(1)", 32, () -> x.restore(1));
        CHECK.same("the second state", Portrait.sketch(x), second);
        x.ticks(1);
        CHECK.answers("save takes the old one's place", 33, () -> x.save(0));
        x.ticks(1);
        CHECK.answers("restore(0) of the new one", 33, () -> x.restore(0));
        x.append('N');
        CHECK.answers("restore leaves the text", 32, () -> x.restore(1));
        CHECK.answers("restore leaves the text", 1, x::clearText);
    }
}
