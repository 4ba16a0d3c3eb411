/** Promises 1 and 6 to 11: what there is, in a new object and in the middle of a run. */
public final class LooksTest {
    private static final Check CHECK = new Check();

    public static void main(String[] args) {
        promise1();
        promise6();
        promise7();
        promise8();
        promise9();
        promise10();
        promise10OfEight();
        promise11();
        CHECK.finish("LooksTest");
    }

    private interface Look {
        int of(int what);
    }

    private static void all(String name, Look look, int... due) {
        for (int what = 0; what < due.length; what++) {
            int w = what;
            CHECK.answers(name + " " + what, due[what], () -> look.of(w));
        }
    }

    private static void promise1() {
        HeldNotes x = new HeldNotes();
        all("about of a new object", x::about, 1, 0, 0, 0, 0, 0, 0, 0, 0);
        all("writer of a new object", w -> x.writer(0, w), 0, 0, 1, 0, 0, 0, 0);
        all("desk of a new object", w -> x.desk(0, w), 0, 0, 0, -1, 0, 0);
        all("settings of a new object", x::setting, 3, 6, 20, 3);
        CHECK.refuses("a second writer", Check.BOUNDS, () -> x.writer(1, 0));
        CHECK.refuses("undo of a new object", Check.STATE, x::undo);
        CHECK.refuses("restore of a new object", Check.STATE, () -> x.restore(0));
        CHECK.refuses("restore of a new object", Check.STATE, () -> x.restore(1));
        CHECK.answers("its text", 0, x::clearText);
        CHECK.same("NONE", HeldNotes.NONE, -1);
    }

    /**
     * Writer 0 sends letters of 20, 20 and 10 at 0, which come at 3: an answer to two of them sets
     * out, and the third one's is due at 9. Writer 1 sends a letter of 4 and holds 5 back. A note
     * for writer 2 is planned.
     */
    private static HeldNotes atThree() {
        HeldNotes x = new HeldNotes();
        x.post(3);
        x.write(0, 50);
        x.hold(0, false);
        x.write(1, 4);
        x.write(1, 5);
        x.plan(50, 2, 8);
        x.plan(2, 2, 1);
        x.ticks(3);
        return x;
    }

    private static void promise6() {
        HeldNotes x = atThree();
        all("about at 3", x::about, 3, 3, 1, 5, 5, 5, 1, 54, 3);
        x.ticks(3);
        all("about at 6", x::about, 3, 6, 1, 5, 3, 5, 1, 55, 6);
        x.ticks(3);
        all("about at 9", x::about, 3, 9, 1, 5, 3, 5, 3, 55, 9);
        x.ticks(3);
        all("about at 12", x::about, 3, 12, 1, 0, 2, 6, 4, 55, 11);
        CHECK.refuses("about(-1)", Check.ARGUMENT, () -> x.about(-1));
        CHECK.refuses("about(9)", Check.ARGUMENT, () -> x.about(9));
        CHECK.refuses("about(least)", Check.ARGUMENT, () -> x.about(Integer.MIN_VALUE));
        CHECK.refuses("about(most)", Check.ARGUMENT, () -> x.about(Integer.MAX_VALUE));
        CHECK.keeps(x, "about", () -> x.about(3));
    }

    private static void promise7() {
        HeldNotes x = atThree();
        all("writer 0 at 3", w -> x.writer(0, w), 0, 3, 0, 50, 3, 0, 0);
        all("writer 1 at 3", w -> x.writer(1, w), 5, 1, 1, 9, 1, 3, 0);
        all("writer 2 at 3", w -> x.writer(2, w), 0, 1, 1, 1, 1, 0, 0);
        x.ticks(3);
        all("writer 0 at 6", w -> x.writer(0, w), 0, 1, 0, 50, 3, 0, 2);
        x.ticks(6);
        all("writer 0 at 12", w -> x.writer(0, w), 0, 0, 0, 50, 3, 0, 3);
        all("writer 1 at 12", w -> x.writer(1, w), 0, 1, 1, 9, 2, 11, 1);
        wrongLooks(x, "writer", 6, x::writer);
    }

    private interface LookAt {
        int of(int k, int what);
    }

    private static void wrongLooks(HeldNotes x, String name, int most, LookAt look) {
        CHECK.refuses(name + "(0, -1)", Check.ARGUMENT, () -> look.of(0, -1));
        CHECK.refuses(name + "(2, too much)", Check.ARGUMENT, () -> look.of(2, most + 1));
        CHECK.refuses(name + "(0, most)", Check.ARGUMENT, () -> look.of(0, Integer.MAX_VALUE));
        CHECK.refuses(name + "(-1, 0)", Check.BOUNDS, () -> look.of(-1, 0));
        CHECK.refuses(name + "(3, 0)", Check.BOUNDS, () -> look.of(3, 0));
        CHECK.refuses(name + "(4, 0)", Check.BOUNDS, () -> look.of(4, 0));
        CHECK.refuses(name + "(least, 0)", Check.BOUNDS, () -> look.of(Integer.MIN_VALUE, 0));
        CHECK.refuses(name + "(most, 0)", Check.BOUNDS, () -> look.of(Integer.MAX_VALUE, 0));
        CHECK.refuses(name + ": the writer is named first", Check.BOUNDS, () -> look.of(3, most + 1));
        CHECK.refuses(name + ": the writer is named first", Check.BOUNDS, () -> look.of(-1, -1));
        CHECK.keeps(x, name, () -> look.of(0, 0));
    }

    private static void promise8() {
        HeldNotes x = atThree();
        all("desk 0 at 3", w -> x.desk(0, w), 50, 3, 1, 9, 1, 1);
        all("desk 1 at 3", w -> x.desk(1, w), 4, 1, 1, 9, 0, 0);
        all("desk 2 at 3", w -> x.desk(2, w), 0, 0, 0, -1, 0, 0);
        x.ticks(5);
        all("desk 0 at 8", w -> x.desk(0, w), 50, 3, 1, 9, 1, 0);
        all("desk 2 at 8", w -> x.desk(2, w), 1, 1, 1, 11, 0, 0);
        x.ticks(1);
        all("desk 0 at 9", w -> x.desk(0, w), 50, 3, 0, -1, 2, 1);
        all("desk 1 at 9", w -> x.desk(1, w), 4, 1, 0, -1, 1, 1);
        x.ticks(3);
        all("desk 1 at 12", w -> x.desk(1, w), 4, 1, 0, -1, 1, 0);
        wrongLooks(x, "desk", 5, x::desk);
    }

    private static void promise9() {
        HeldNotes x = atThree();
        all("letter 0", w -> x.letter(0, 0, w), 20, 3);
        all("letter 1", w -> x.letter(0, 1, w), 20, 3);
        all("letter 2", w -> x.letter(0, 2, w), 10, 3);
        all("letter of writer 2", w -> x.letter(2, 0, w), 1, 5);
        CHECK.refuses("letter 3", Check.BOUNDS, () -> x.letter(0, 3, 0));
        x.ticks(3);
        all("the letter that is left", w -> x.letter(0, 0, w), 10, 3);
        CHECK.refuses("the answered letter", Check.BOUNDS, () -> x.letter(0, 1, 0));
        x.write(0, 3);
        all("the letter that is new", w -> x.letter(0, 1, w), 3, 9);
        CHECK.refuses("letter(0, -1, 0)", Check.BOUNDS, () -> x.letter(0, -1, 0));
        CHECK.refuses("letter(0, most, 0)", Check.BOUNDS, () -> x.letter(0, Integer.MAX_VALUE, 0));
        CHECK.refuses("letter(0, least, 0)", Check.BOUNDS, () -> x.letter(0, Integer.MIN_VALUE, 0));
        CHECK.refuses("letter(-1, 0, 0)", Check.BOUNDS, () -> x.letter(-1, 0, 0));
        CHECK.refuses("letter(3, 0, 0)", Check.BOUNDS, () -> x.letter(3, 0, 0));
        CHECK.refuses("letter(0, 0, 2)", Check.ARGUMENT, () -> x.letter(0, 0, 2));
        CHECK.refuses("letter(0, 0, -1)", Check.ARGUMENT, () -> x.letter(0, 0, -1));
        CHECK.refuses("the letter is named first", Check.BOUNDS, () -> x.letter(0, 2, 2));
        CHECK.refuses("the writer is named first", Check.BOUNDS, () -> x.letter(3, 0, 2));
        CHECK.keeps(x, "letter", () -> x.letter(0, 0, 0));
    }

    private static void promise10() {
        HeldNotes x = new HeldNotes();
        x.post(4);
        CHECK.refuses("planned of none", Check.BOUNDS, () -> x.planned(0, 0));
        x.ticks(2);
        x.plan(9, 3, 500);
        x.plan(1, 0, 1);
        x.plan(5, 1, 7);
        all("note 0", w -> x.planned(0, w), 11, 3, 500);
        all("note 1", w -> x.planned(1, w), 3, 0, 1);
        all("note 2", w -> x.planned(2, w), 7, 1, 7);
        x.ticks(1);
        all("the next ones move up", w -> x.planned(1, w), 7, 1, 7);
        all("the one ahead stays", w -> x.planned(0, w), 11, 3, 500);
        CHECK.refuses("planned(2, 0)", Check.BOUNDS, () -> x.planned(2, 0));
        CHECK.refuses("planned(-1, 0)", Check.BOUNDS, () -> x.planned(-1, 0));
        CHECK.refuses("planned(most, 0)", Check.BOUNDS, () -> x.planned(Integer.MAX_VALUE, 0));
        CHECK.refuses("planned(least, 0)", Check.BOUNDS, () -> x.planned(Integer.MIN_VALUE, 0));
        CHECK.refuses("planned(0, 3)", Check.ARGUMENT, () -> x.planned(0, 3));
        CHECK.refuses("planned(0, -1)", Check.ARGUMENT, () -> x.planned(0, -1));
        CHECK.refuses("the note is named first", Check.BOUNDS, () -> x.planned(2, 3));
        CHECK.keeps(x, "planned", () -> x.planned(0, 0));
    }

    private static void promise10OfEight() {
        HeldNotes x = new HeldNotes();
        x.post(4);
        x.plan(1, 0, 1);
        for (int i = 0; i < 7; i++) {
            x.plan(20 - i, i % 4, 100 + i);
        }
        x.ticks(1);
        for (int i = 0; i < 7; i++) {
            int j = i;
            all("note " + i + " of seven", w -> x.planned(j, w), 20 - i, i % 4, 100 + i);
        }
        CHECK.refuses("an eighth note", Check.BOUNDS, () -> x.planned(7, 0));
    }

    private static void promise11() {
        HeldNotes x = new HeldNotes();
        x.set(0, 9);
        x.set(1, 0);
        x.set(2, 99);
        x.set(3, 1);
        all("setting", x::setting, 9, 0, 99, 1);
        CHECK.refuses("setting(-1)", Check.ARGUMENT, () -> x.setting(-1));
        CHECK.refuses("setting(4)", Check.ARGUMENT, () -> x.setting(4));
        CHECK.refuses("setting(most)", Check.ARGUMENT, () -> x.setting(Integer.MAX_VALUE));
        CHECK.refuses("setting(least)", Check.ARGUMENT, () -> x.setting(Integer.MIN_VALUE));
        CHECK.keeps(x, "setting", () -> x.setting(2));
    }
}
