/** Promises 12 to 19: the actions, and undo. */
public final class ActionsTest {
    private static final Check CHECK = new Check();

    public static void main(String[] args) {
        promise12();
        promise12BeginsAnew();
        promise13();
        promise13FullOutbox();
        promise14();
        promise14LostNote();
        promise15();
        promise16();
        promise17();
        promise18();
        promise19();
        promise19Forgets();
        promise19WhatIsAnAction();
        promise19BringsBackAll();
        CHECK.finish("ActionsTest");
    }

    private static void promise12() {
        HeldNotes fresh = new HeldNotes();
        HeldNotes x = new HeldNotes();
        x.post(3);
        x.hold(2, false);
        x.write(2, 90);
        x.plan(5, 1, 5);
        x.ticks(4);
        CHECK.answers("post(1)", 1, () -> x.post(1));
        CHECK.same("all is as at first", Portrait.of(x), Portrait.of(fresh));
        x.set(0, 5);
        x.set(3, 6);
        CHECK.answers("post(4)", 4, () -> x.post(4));
        CHECK.answers("four writers", 4, () -> x.about(0));
        CHECK.answers("writer 2 holds back as at first", 1, () -> x.writer(2, 2));
        CHECK.answers("setting 0 stays", 5, () -> x.setting(0));
        CHECK.answers("setting 3 stays", 6, () -> x.setting(3));
        x.write(3, 7);
        x.ticks(2);
        x.write(0, 7);
        x.ticks(5);
        CHECK.answers("post(2)", 2, () -> x.post(2));
        CHECK.answers("nothing came", 0, () -> x.ticks(9));
        CHECK.refuses("writer 2 is no more", Check.BOUNDS, () -> x.writer(2, 0));
        for (int wrong : new int[] {0, 5, -1, Integer.MIN_VALUE, Integer.MAX_VALUE}) {
            CHECK.refusesAndKeeps(x, "post(" + wrong + ")", Check.ARGUMENT, () -> x.post(wrong));
        }
    }

    /** Each number of the writer is other than at first, an answer and letters are under way. */
    private static void promise12BeginsAnew() {
        HeldNotes x = new HeldNotes();
        x.hold(0, false);
        x.write(0, 45);
        x.ticks(6);
        x.write(0, 20);
        x.ticks(3);
        x.write(0, 50);
        x.plan(20, 0, 5);
        CHECK.answers("some are answered", 2, () -> x.writer(0, 6));
        CHECK.answers("an answer is under way", 1, () -> x.desk(0, 5));
        x.ticks(1);
        CHECK.answers("post(1)", 1, () -> x.post(1));
        CHECK.same("all is as at first", Portrait.of(x), Portrait.of(new HeldNotes()));
        HeldNotes y = new HeldNotes();
        y.write(0, 20);
        y.ticks(4);
        CHECK.answers("a letter waits at the desk", 1, () -> y.desk(0, 2));
        y.post(1);
        CHECK.same("all is as at first", Portrait.of(y), Portrait.of(new HeldNotes()));
        y.write(0, 20);
        y.ticks(3);
        CHECK.answers("the first letter is the first", 0, () -> y.desk(0, 4));
        CHECK.answers("and waits", 9, () -> y.desk(0, 3));
    }

    private static void promise13() {
        HeldNotes x = new HeldNotes();
        x.post(2);
        CHECK.answers("write(1, 1)", 1, () -> x.write(1, 1));
        CHECK.answers("write(1, 500)", 2, () -> x.write(1, 500));
        CHECK.answers("its letters are full", 20, () -> x.letter(1, 1, 0));
        CHECK.answers("its outbox", 460, () -> x.writer(1, 0));
        CHECK.answers("the signs written", 501, () -> x.writer(1, 3));
        CHECK.answers("the other writer wrote nothing", 0, () -> x.writer(0, 3));
        CHECK.refusesAndKeeps(x, "write(0, 0)", Check.ARGUMENT, () -> x.write(0, 0));
        CHECK.refusesAndKeeps(x, "write(0, 501)", Check.ARGUMENT, () -> x.write(0, 501));
        CHECK.refusesAndKeeps(x, "write(0, -5)", Check.ARGUMENT, () -> x.write(0, -5));
        CHECK.refusesAndKeeps(x, "write(0, most)", Check.ARGUMENT, () -> x.write(0, Integer.MAX_VALUE));
        CHECK.refusesAndKeeps(x, "write(2, 1)", Check.BOUNDS, () -> x.write(2, 1));
        CHECK.refusesAndKeeps(x, "write(-1, 1)", Check.BOUNDS, () -> x.write(-1, 1));
        CHECK.refuses("the writer is named first", Check.BOUNDS, () -> x.write(2, 0));
    }

    /** An object whose one writer has 9940 signs in the outbox. */
    private static HeldNotes fullOutbox() {
        HeldNotes x = new HeldNotes();
        for (int i = 0; i < 20; i++) {
            x.write(0, 500);
        }
        return x;
    }

    private static void promise13FullOutbox() {
        HeldNotes x = fullOutbox();
        CHECK.answers("the outbox", 9940, () -> x.writer(0, 0));
        CHECK.refusesAndKeeps(x, "write to 10000", Check.STATE, () -> x.write(0, 60));
        CHECK.refusesAndKeeps(x, "write to 10440", Check.STATE, () -> x.write(0, 500));
        CHECK.refuses("the argument is named first", Check.ARGUMENT, () -> x.write(0, 501));
        CHECK.refuses("the writer is named first", Check.BOUNDS, () -> x.write(1, 60));
        CHECK.answers("write to 9999", 0, () -> x.write(0, 59));
        CHECK.answers("the outbox is full", 9999, () -> x.writer(0, 0));
        CHECK.refusesAndKeeps(x, "write to a full one", Check.STATE, () -> x.write(0, 1));
        x.set(3, 4);
        CHECK.refuses("it is the outbox ahead of sending", Check.STATE, () -> x.write(0, 1));
        CHECK.answers("the letter that can go", 1, () -> x.flush(0));
        CHECK.answers("and then a note has room", 0, () -> x.write(0, 20));
    }

    private static void promise14() {
        HeldNotes x = new HeldNotes();
        x.post(2);
        CHECK.answers("plan(1, 0, 1)", 1, () -> x.plan(1, 0, 1));
        CHECK.answers("plan(99, 1, 500)", 2, () -> x.plan(99, 1, 500));
        CHECK.answers("nothing is written yet", 0, () -> x.writer(0, 3));
        CHECK.refusesAndKeeps(x, "plan(0, 0, 1)", Check.ARGUMENT, () -> x.plan(0, 0, 1));
        CHECK.refusesAndKeeps(x, "plan(100, 0, 1)", Check.ARGUMENT, () -> x.plan(100, 0, 1));
        CHECK.refusesAndKeeps(x, "plan(-1, 0, 1)", Check.ARGUMENT, () -> x.plan(-1, 0, 1));
        CHECK.refusesAndKeeps(x, "plan(1, 0, 0)", Check.ARGUMENT, () -> x.plan(1, 0, 0));
        CHECK.refusesAndKeeps(x, "plan(1, 0, 501)", Check.ARGUMENT, () -> x.plan(1, 0, 501));
        CHECK.refusesAndKeeps(x, "plan(1, 2, 1)", Check.BOUNDS, () -> x.plan(1, 2, 1));
        CHECK.refusesAndKeeps(x, "plan(1, -1, 1)", Check.BOUNDS, () -> x.plan(1, -1, 1));
        CHECK.refuses("the writer is named first", Check.BOUNDS, () -> x.plan(0, 2, 1));
        CHECK.refuses("the writer is named first", Check.BOUNDS, () -> x.plan(1, 2, 0));
        for (int n = 3; n <= 8; n++) {
            CHECK.answers("plan, note " + n, n, () -> x.plan(1, 1, 2));
        }
        CHECK.refusesAndKeeps(x, "a ninth note", Check.STATE, () -> x.plan(1, 0, 1));
        CHECK.refuses("the argument is named first", Check.ARGUMENT, () -> x.plan(0, 0, 1));
        CHECK.refuses("the argument is named first", Check.ARGUMENT, () -> x.plan(1, 0, 501));
        CHECK.refuses("the writer is named first", Check.BOUNDS, () -> x.plan(1, 2, 1));
        x.ticks(1);
        CHECK.answers("the notes of this tick are written", 12, () -> x.writer(1, 3));
        CHECK.answers("and of the other writer", 1, () -> x.writer(0, 3));
        CHECK.answers("so one is left and one more is planned", 2, () -> x.plan(3, 0, 4));
        x.ticks(98);
        CHECK.answers("the note of 99", 512, () -> x.writer(1, 3));
    }

    private static void promise14LostNote() {
        HeldNotes x = fullOutbox();
        x.plan(1, 0, 60);
        x.plan(2, 0, 59);
        x.ticks(1);
        CHECK.answers("a note that had 10000 signs is lost", 9940, () -> x.writer(0, 0));
        CHECK.answers("it is not written", 10000, () -> x.writer(0, 3));
        CHECK.answers("nor planned any more", 1, () -> x.about(2));
        x.ticks(1);
        CHECK.answers("one that had 9999 is not", 9999, () -> x.writer(0, 0));
        CHECK.answers("it is written", 10059, () -> x.writer(0, 3));
    }

    private static void promise15() {
        HeldNotes x = new HeldNotes();
        x.post(2);
        x.write(0, 5);
        x.write(0, 6);
        CHECK.answers("hold(0, true) sends nothing", 0, () -> x.hold(0, true));
        CHECK.answers("hold(0, false) sends what is there", 1, () -> x.hold(0, false));
        CHECK.answers("with all signs", 6, () -> x.letter(0, 1, 0));
        CHECK.answers("the writer does not hold back", 0, () -> x.writer(0, 2));
        CHECK.answers("the other one does", 1, () -> x.writer(1, 2));
        CHECK.answers("a note goes at once", 1, () -> x.write(0, 1));
        CHECK.answers("a fourth one does not", 0, () -> x.write(0, 2));
        CHECK.answers("hold(0, false) with a full window", 0, () -> x.hold(0, false));
        CHECK.answers("hold(0, true)", 0, () -> x.hold(0, true));
        CHECK.answers("it holds back again", 1, () -> x.writer(0, 2));
        x.set(3, 6);
        CHECK.answers("hold(0, true) holds back", 0, () -> x.hold(0, true));
        x.set(2, 4);
        x.write(0, 1);
        CHECK.answers("a rest of 3", 3, () -> x.writer(0, 0));
        x.set(2, 20);
        x.write(0, 15);
        x.set(2, 4);
        CHECK.answers("hold(0, true) sends full letters", 3, () -> x.hold(0, true));
        CHECK.answers("18 signs less three letters of 4", 6, () -> x.writer(0, 0));
        CHECK.refusesAndKeeps(x, "hold(2, true)", Check.BOUNDS, () -> x.hold(2, true));
        CHECK.refusesAndKeeps(x, "hold(-1, false)", Check.BOUNDS, () -> x.hold(-1, false));
        CHECK.refusesAndKeeps(x, "hold(4, false)", Check.BOUNDS, () -> x.hold(4, false));
    }

    private static void promise16() {
        HeldNotes x = new HeldNotes();
        x.post(2);
        CHECK.answers("flush of nothing", 0, () -> x.flush(0));
        x.write(0, 25);
        CHECK.answers("flush", 1, () -> x.flush(0));
        CHECK.answers("the letter", 5, () -> x.letter(0, 1, 0));
        CHECK.answers("the writer holds back as before", 1, () -> x.writer(0, 2));
        CHECK.answers("and does so", 0, () -> x.write(0, 1));
        CHECK.answers("flush to a full window", 1, () -> x.flush(0));
        x.write(0, 50);
        CHECK.answers("flush with a full window", 0, () -> x.flush(0));
        x.set(3, 5);
        CHECK.answers("flush of full letters", 2, () -> x.flush(0));
        x.set(3, 6);
        CHECK.answers("flush of the rest", 1, () -> x.flush(0));
        CHECK.answers("the rest", 10, () -> x.letter(0, 5, 0));
        CHECK.refusesAndKeeps(x, "flush(2)", Check.BOUNDS, () -> x.flush(2));
        CHECK.refusesAndKeeps(x, "flush(-1)", Check.BOUNDS, () -> x.flush(-1));
    }

    private static void promise17() {
        HeldNotes x = new HeldNotes();
        x.post(3);
        x.write(0, 50);
        x.write(2, 7);
        CHECK.answers("nothing comes by 2", 0, () -> x.ticks(2));
        CHECK.answers("40 and 7 come at 3", 47, () -> x.ticks(1));
        CHECK.answers("the rest of writer 0 comes at 9", 0, () -> x.ticks(5));
        CHECK.answers("10 come at 9", 10, () -> x.ticks(1));
        CHECK.answers("the time", 9, () -> x.about(1));
        CHECK.answers("ticks(99)", 0, () -> x.ticks(99));
        CHECK.answers("the time", 108, () -> x.about(1));
        for (int wrong : new int[] {0, 100, -1, Integer.MIN_VALUE, Integer.MAX_VALUE}) {
            CHECK.refusesAndKeeps(x, "ticks(" + wrong + ")", Check.ARGUMENT, () -> x.ticks(wrong));
        }
    }

    private static void promise18() {
        int[] lowest = {1, 0, 4, 1};
        int[] highest = {9, 20, 99, 6};
        int[] first = {3, 6, 20, 3};
        HeldNotes x = new HeldNotes();
        x.write(0, 500);
        for (int what = 0; what <= 3; what++) {
            int w = what;
            int low = lowest[what];
            int high = highest[what];
            CHECK.refusesAndKeeps(x, "set below", Check.ARGUMENT, () -> x.set(w, low - 1));
            CHECK.refusesAndKeeps(x, "set above", Check.ARGUMENT, () -> x.set(w, high + 1));
            CHECK.refuses("set far below", Check.ARGUMENT, () -> x.set(w, Integer.MIN_VALUE));
            CHECK.refuses("set far above", Check.ARGUMENT, () -> x.set(w, Integer.MAX_VALUE));
            CHECK.answers("set to the lowest of " + w, first[w], () -> x.set(w, low));
            CHECK.answers("set to the highest of " + w, low, () -> x.set(w, high));
            CHECK.answers("setting " + w, high, () -> x.setting(w));
            CHECK.answers("no writer sends by it", 3, () -> x.writer(0, 4));
        }
        CHECK.refusesAndKeeps(x, "set(-1, 3)", Check.ARGUMENT, () -> x.set(-1, 3));
        CHECK.refusesAndKeeps(x, "set(4, 3)", Check.ARGUMENT, () -> x.set(4, 3));
        CHECK.refuses("set(most, 3)", Check.ARGUMENT, () -> x.set(Integer.MAX_VALUE, 3));
        CHECK.refuses("set(least, 3)", Check.ARGUMENT, () -> x.set(Integer.MIN_VALUE, 3));
    }

    private static void promise19() {
        HeldNotes x = new HeldNotes();
        CHECK.refusesAndKeeps(x, "undo of nothing", Check.STATE, x::undo);
        String[] portraits = new String[7];
        portraits[0] = Portrait.sketch(x);
        x.post(2);
        portraits[1] = Portrait.sketch(x);
        x.write(0, 45);
        portraits[2] = Portrait.sketch(x);
        x.plan(7, 1, 30);
        portraits[3] = Portrait.sketch(x);
        x.hold(0, false);
        portraits[4] = Portrait.sketch(x);
        x.set(0, 8);
        portraits[5] = Portrait.sketch(x);
        x.ticks(10);
        portraits[6] = Portrait.sketch(x);
        x.flush(1);
        for (int left = 6; left >= 0; left--) {
            CHECK.answers("undo", left, x::undo);
            CHECK.same("the state of " + left, Portrait.sketch(x), portraits[left]);
        }
        CHECK.refusesAndKeeps(x, "undo of one more", Check.STATE, x::undo);
        CHECK.answers("and an action behind it", 1, () -> x.write(0, 1));
        CHECK.answers("can be taken back", 0, x::undo);
        CHECK.same("to the new object", Portrait.sketch(x), portraits[0]);
    }

    private static void promise19Forgets() {
        for (int actions = 13; actions <= 32; actions++) {
            HeldNotes x = new HeldNotes();
            for (int i = 0; i < actions; i++) {
                x.ticks(1);
            }
            int most = Math.min(actions, 14);
            for (int left = most - 1; left >= 0; left--) {
                CHECK.answers("undo behind " + actions, left, x::undo);
            }
            CHECK.answers("the oldest that is remembered", actions - most, () -> x.about(1));
            CHECK.refuses("the others are forgotten", Check.STATE, x::undo);
            x.ticks(5);
            x.ticks(6);
            CHECK.answers("one of two", 1, x::undo);
            CHECK.answers("the time", actions - most + 5, () -> x.about(1));
        }
    }

    private static void promise19WhatIsAnAction() {
        HeldNotes x = new HeldNotes();
        x.set(0, 3);
        x.flush(0);
        x.hold(0, true);
        CHECK.answers("actions that change nothing", 2, x::undo);
        x.post(1);
        CHECK.answers("post is one", 2, x::undo);
        CHECK.refuses("no action", Check.ARGUMENT, () -> x.write(0, 0));
        CHECK.refuses("no action", Check.ARGUMENT, () -> x.set(0, 0));
        CHECK.refuses("no action", Check.ARGUMENT, () -> x.ticks(0));
        CHECK.refuses("no action", Check.ARGUMENT, () -> x.post(0));
        CHECK.refuses("no action", Check.BOUNDS, () -> x.flush(1));
        CHECK.refuses("no action", Check.BOUNDS, () -> x.hold(1, true));
        CHECK.refuses("no action", Check.BOUNDS, () -> x.plan(1, 1, 1));
        x.append('N');
        x.clearText();
        x.doneIn(0);
        x.thereIn(0, 5);
        x.ifHeld(0, 3);
        x.best(2, 0);
        x.runScript(1, 10005);
        x.simulate(5, 60);
        x.save(0);
        CHECK.answers("none of these is an action", 1, x::undo);
        CHECK.answers("nor is undo", 0, x::undo);
        CHECK.refuses("so none is left", Check.STATE, x::undo);
    }

    /** What is under way and what a desk waits for comes back too. */
    private static void promise19BringsBackAll() {
        HeldNotes x = new HeldNotes();
        x.post(4);
        for (int k = 0; k < 4; k++) {
            x.write(k, 30 + k);
        }
        x.ticks(4);
        x.write(3, 20);
        x.ticks(4);
        String before = Portrait.of(x);
        int later = x.simulate(77, 60);
        x.ticks(99);
        x.post(1);
        x.undo();
        x.undo();
        CHECK.same("the state", Portrait.of(x), before);
        CHECK.answers("and what becomes of it", later, () -> x.simulate(77, 60));
        CHECK.answers("writer 3 still has two letters", 2, () -> x.writer(3, 1));
    }
}
