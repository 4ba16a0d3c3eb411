/** Promises 20 to 23: what would be. */
public final class LookAheadTest {
    private static final Check CHECK = new Check();

    public static void main(String[] args) {
        promise20();
        promise20Limit();
        promise21();
        promise21Limit();
        promise22();
        promise22Letters();
        promise23();
        promise23None();
        CHECK.finish("LookAheadTest");
    }

    private static void promise20() {
        HeldNotes x = new HeldNotes();
        x.post(2);
        CHECK.answers("doneIn of nothing", 0, () -> x.doneIn(0));
        x.write(0, 3);
        CHECK.answers("there at 3, answered at 9, back at 12", 12, () -> x.doneIn(0));
        x.write(0, 4);
        CHECK.answers("and once more", 24, () -> x.doneIn(0));
        CHECK.answers("the other writer", 0, () -> x.doneIn(1));
        x.ticks(5);
        CHECK.answers("five ticks later", 19, () -> x.doneIn(0));
        x.plan(30, 1, 40);
        CHECK.answers("a note of the other one is nothing to it", 19, () -> x.doneIn(0));
        CHECK.answers("but to that one: two letters together", 36, () -> x.doneIn(1));
        x.ticks(18);
        CHECK.answers("the last tick", 1, () -> x.doneIn(0));
        x.ticks(1);
        CHECK.answers("done", 0, () -> x.doneIn(0));
        x.plan(99, 0, 1);
        CHECK.answers("a note that is planned is not done", 111, () -> x.doneIn(0));
        CHECK.refuses("doneIn(2)", Check.BOUNDS, () -> x.doneIn(2));
        CHECK.refuses("doneIn(-1)", Check.BOUNDS, () -> x.doneIn(-1));
        CHECK.refuses("doneIn(4)", Check.BOUNDS, () -> x.doneIn(4));
        CHECK.keeps(x, "doneIn", () -> x.doneIn(1));
    }

    /** A post in which a letter comes back behind so many ticks, and the next one is sent then. */
    private static HeldNotes oneByOne(int travel, int patience) {
        HeldNotes x = new HeldNotes();
        x.set(0, travel);
        x.set(1, patience);
        x.set(3, 1);
        return x;
    }

    private static void promise20Limit() {
        HeldNotes x = oneByOne(3, 14);
        x.write(0, 400);
        CHECK.answers("twenty letters of twenty ticks", 400, () -> x.doneIn(0));
        x.write(0, 1);
        CHECK.answers("one more", HeldNotes.NONE, () -> x.doneIn(0));
        HeldNotes y = oneByOne(3, 14);
        y.plan(1, 0, 400);
        CHECK.answers("one tick more", HeldNotes.NONE, () -> y.doneIn(0));
        y.ticks(1);
        CHECK.answers("and a tick later", 400, () -> y.doneIn(0));
    }

    private static void promise21() {
        HeldNotes x = new HeldNotes();
        x.post(2);
        CHECK.answers("thereIn of a note that goes at once", 3, () -> x.thereIn(0, 9));
        CHECK.answers("of one with a second letter", 9, () -> x.thereIn(0, 45));
        x.write(0, 3);
        CHECK.answers("of one that is held back", 15, () -> x.thereIn(0, 9));
        CHECK.answers("of one that is a full letter", 3, () -> x.thereIn(0, 20));
        CHECK.answers("of the other writer", 3, () -> x.thereIn(1, 9));
        x.plan(2, 0, 15);
        CHECK.answers("of one that goes with a planned one", 5, () -> x.thereIn(0, 5));
        x.hold(0, false);
        CHECK.answers("of one of a writer that does not hold back", 3, () -> x.thereIn(0, 1));
        CHECK.refuses("thereIn(2, 5)", Check.BOUNDS, () -> x.thereIn(2, 5));
        CHECK.refuses("thereIn(-1, 5)", Check.BOUNDS, () -> x.thereIn(-1, 5));
        CHECK.refuses("thereIn(0, 0)", Check.ARGUMENT, () -> x.thereIn(0, 0));
        CHECK.refuses("thereIn(0, 501)", Check.ARGUMENT, () -> x.thereIn(0, 501));
        CHECK.refuses("thereIn(0, most)", Check.ARGUMENT, () -> x.thereIn(0, Integer.MAX_VALUE));
        CHECK.refuses("the writer is named first", Check.BOUNDS, () -> x.thereIn(2, 0));
        CHECK.keeps(x, "thereIn", () -> x.thereIn(0, 500));
    }

    private static void promise21Limit() {
        HeldNotes x = oneByOne(1, 19);
        CHECK.answers("the twentieth letter", 400, () -> x.thereIn(0, 400));
        CHECK.answers("the twenty-first", HeldNotes.NONE, () -> x.thereIn(0, 401));
        HeldNotes y = oneByOne(1, 18);
        CHECK.answers("a letter at 401", HeldNotes.NONE, () -> y.thereIn(0, 420));
        CHECK.answers("the one ahead of it", 381, () -> y.thereIn(0, 400));
        HeldNotes z = new HeldNotes();
        for (int i = 0; i < 20; i++) {
            z.write(0, 500);
        }
        // 9940 signs wait: with the largest letters, three at a time, they would be there in time.
        z.set(0, 1);
        z.set(1, 0);
        z.set(2, 99);
        CHECK.answers("write() would not throw", 71, () -> z.thereIn(0, 59));
        CHECK.answers("write() would throw", HeldNotes.NONE, () -> z.thereIn(0, 60));
        CHECK.answers("write() would throw", HeldNotes.NONE, () -> z.thereIn(0, 500));
        CHECK.refuses("write() would throw another one", Check.ARGUMENT, () -> z.thereIn(0, 501));
        CHECK.refuses("write() would throw another one", Check.BOUNDS, () -> z.thereIn(1, 60));
    }

    private static void promise22() {
        HeldNotes x = new HeldNotes();
        x.post(2);
        x.write(0, 3);
        x.write(0, 4);
        CHECK.answers("with hold: one behind the other", 24, () -> x.ifHeld(0, 0));
        CHECK.answers("without: two letters are answered at once", 6, () -> x.ifHeld(0, 1));
        CHECK.answers("one letter more with hold", 1, () -> x.ifHeld(0, 2));
        CHECK.answers("one letter more without, by hold itself", 1, () -> x.ifHeld(0, 3));
        CHECK.answers("the writer still holds back", 1, () -> x.writer(0, 2));
        x.hold(1, false);
        x.write(1, 3);
        x.plan(4, 1, 5);
        CHECK.answers("with hold, planned", 24, () -> x.ifHeld(1, 0));
        CHECK.answers("without hold, planned", 10, () -> x.ifHeld(1, 1));
        CHECK.answers("the writer still does not hold back", 0, () -> x.writer(1, 2));
        CHECK.refuses("ifHeld(2, 0)", Check.BOUNDS, () -> x.ifHeld(2, 0));
        CHECK.refuses("ifHeld(-1, 0)", Check.BOUNDS, () -> x.ifHeld(-1, 0));
        CHECK.refuses("ifHeld(0, 4)", Check.ARGUMENT, () -> x.ifHeld(0, 4));
        CHECK.refuses("ifHeld(0, -1)", Check.ARGUMENT, () -> x.ifHeld(0, -1));
        CHECK.refuses("the writer is named first", Check.BOUNDS, () -> x.ifHeld(2, 4));
        for (int what = 0; what <= 3; what++) {
            int w = what;
            CHECK.keeps(x, "ifHeld", () -> x.ifHeld(0, w));
        }
    }

    private static void promise22Letters() {
        HeldNotes x = new HeldNotes();
        x.write(0, 1);
        x.plan(1, 0, 1);
        x.plan(2, 0, 1);
        x.plan(3, 0, 1);
        CHECK.answers("three notes in one letter", 1, () -> x.ifHeld(0, 2));
        CHECK.answers("three notes in three letters", 3, () -> x.ifHeld(0, 3));
        HeldNotes y = oneByOne(3, 14);
        y.write(0, 500);
        CHECK.answers("a letter each 20 ticks, at 400 too", 20, () -> y.ifHeld(0, 2));
        CHECK.answers("not done by then", HeldNotes.NONE, () -> y.ifHeld(0, 0));
        CHECK.answers("not done by then", HeldNotes.NONE, () -> y.ifHeld(0, 1));
        HeldNotes z = oneByOne(3, 14);
        z.plan(1, 0, 500);
        CHECK.answers("a letter at 1, 21, and on to 381", 20, () -> z.ifHeld(0, 3));
        HeldNotes v = oneByOne(3, 14);
        v.write(0, 400);
        CHECK.answers("done at 400", 400, () -> v.ifHeld(0, 0));
        CHECK.answers("done at 400", 400, () -> v.ifHeld(0, 1));
    }

    private static void promise23() {
        HeldNotes x = new HeldNotes();
        x.post(2);
        CHECK.answers("the lowest, as all is done", 0, () -> x.best(1, 0));
        CHECK.answers("the lowest, as all is done", 4, () -> x.best(2, 0));
        x.set(1, 20);
        x.plan(1, 0, 60);
        // Letters of 30 and 30 come together and are answered at once, and nothing is left.
        CHECK.answers("a letter of 30", 30, () -> x.best(2, 0));
        CHECK.answers("no waiting", 0, () -> x.best(1, 0));
        CHECK.answers("the setting stays", 20, () -> x.setting(2));
        CHECK.answers("the setting stays", 20, () -> x.setting(1));
        HeldNotes y = new HeldNotes();
        y.write(0, 3);
        y.ticks(3);
        CHECK.answers("a desk's time stays whatever its patience", 0, () -> y.best(1, 0));
        HeldNotes v = new HeldNotes();
        v.set(0, 1);
        v.set(1, 1);
        v.plan(1, 0, 12);
        // Three letters of 4 need a tick more than two of 6, as the third is answered a tick later.
        CHECK.answers("a value that is better by a tick", 6, () -> v.best(2, 0));
        HeldNotes z = new HeldNotes();
        z.plan(1, 0, 99);
        z.set(3, 1);
        CHECK.answers("one letter for all is best", 99, () -> z.best(2, 0));
        CHECK.refuses("best(0, 0)", Check.ARGUMENT, () -> x.best(0, 0));
        CHECK.refuses("best(3, 0)", Check.ARGUMENT, () -> x.best(3, 0));
        CHECK.refuses("best(-1, 0)", Check.ARGUMENT, () -> x.best(-1, 0));
        CHECK.refuses("best(1, 2)", Check.BOUNDS, () -> x.best(1, 2));
        CHECK.refuses("best(2, -1)", Check.BOUNDS, () -> x.best(2, -1));
        CHECK.refuses("the writer is named first", Check.BOUNDS, () -> x.best(0, 2));
        CHECK.refuses("the writer is named first", Check.BOUNDS, () -> x.best(3, -1));
        CHECK.keeps(x, "best", () -> x.best(1, 0));
        CHECK.keeps(x, "best", () -> x.best(2, 1));
    }

    private static void promise23None() {
        HeldNotes x = new HeldNotes();
        x.set(0, 9);
        x.set(3, 1);
        for (int i = 0; i < 19; i++) {
            x.write(0, 500);
        }
        CHECK.answers("none is best", HeldNotes.NONE, () -> x.best(1, 0));
        CHECK.answers("none is best", HeldNotes.NONE, () -> x.best(2, 0));
        HeldNotes y = oneByOne(3, 20);
        y.write(0, 400);
        CHECK.answers("not done with 20", HeldNotes.NONE, () -> y.doneIn(0));
        CHECK.answers("but with 0", 0, () -> y.best(1, 0));
        CHECK.answers("or with four letters of 95 for the 380 that wait", 95, () -> y.best(2, 0));
    }
}
