/** The terms: how writers send, how desks answer, in which order a tick goes. */
public final class WaysTest {
    private static final Check CHECK = new Check();

    public static void main(String[] args) {
        fullLettersAndTheRest();
        windowOfLetters();
        lettersDoNotOvertake();
        answersDoNotOvertake();
        deskAnswersTheSecondAtOnce();
        deskThatWaitsForNothing();
        letterAheadOfTheDeskTime();
        settingsLeaveWhatIsUnderWay();
        nothingIsSentWithoutAnAnswer();
        heldTicks();
        notesAreWrittenInTheirOrder();
        oneAnswerForTwoThatCame();
        CHECK.finish("WaysTest");
    }

    private static void fullLettersAndTheRest() {
        HeldNotes x = new HeldNotes();
        CHECK.answers("20 signs are a full letter", 1, () -> x.write(0, 20));
        CHECK.answers("19 are held back", 0, () -> x.write(0, 19));
        CHECK.answers("20 are not", 1, () -> x.write(0, 1));
        CHECK.answers("and leave nothing", 0, () -> x.writer(0, 0));
        HeldNotes y = new HeldNotes();
        CHECK.answers("a small note goes if nothing is unanswered", 1, () -> y.write(0, 1));
        HeldNotes z = new HeldNotes();
        CHECK.answers("21 signs are a letter and a held one", 1, () -> z.write(0, 21));
        CHECK.answers("the held one", 1, () -> z.writer(0, 0));
        CHECK.answers("all 20 more go as a letter of 20", 1, () -> z.write(0, 20));
        CHECK.answers("the rest is as before", 1, () -> z.writer(0, 0));
        CHECK.answers("the letter is of 20", 20, () -> z.letter(0, 1, 0));
    }

    private static void windowOfLetters() {
        HeldNotes x = new HeldNotes();
        x.hold(0, false);
        x.set(3, 6);
        CHECK.answers("six letters", 6, () -> x.write(0, 200));
        CHECK.answers("the rest waits", 80, () -> x.writer(0, 0));
        CHECK.answers("a full window, without hold", 0, () -> x.write(0, 1));
        x.set(3, 1);
        x.ticks(6);
        // Letters come at 3, three pairs, so that three answers come at 6 and all are answered.
        CHECK.answers("one letter more behind the answers", 1, () -> x.writer(0, 1));
        CHECK.answers("seven are sent", 7, () -> x.writer(0, 4));
        HeldNotes y = new HeldNotes();
        y.set(3, 2);
        y.write(0, 60);
        y.set(3, 1);
        CHECK.answers("more unanswered than the window", 0, () -> y.flush(0));
        y.set(3, 3);
        CHECK.answers("a wider window", 1, () -> y.flush(0));
    }

    private static void lettersDoNotOvertake() {
        HeldNotes x = new HeldNotes();
        x.set(0, 9);
        x.write(0, 20);
        x.ticks(2);
        x.set(0, 1);
        x.write(0, 20);
        CHECK.answers("the second letter waits for the first", 9, () -> x.letter(0, 1, 1));
        x.ticks(6);
        CHECK.answers("none came at 8", 0, () -> x.desk(0, 1));
        x.write(0, 20);
        CHECK.answers("a third one that comes with them", 9, () -> x.letter(0, 2, 1));
        CHECK.answers("all come together", 60, () -> x.ticks(1));
        CHECK.answers("three came", 3, () -> x.desk(0, 1));
        CHECK.answers("the third waits for an answer", 1, () -> x.desk(0, 2));
        CHECK.answers("from 9 on", 15, () -> x.desk(0, 3));
    }

    private static void answersDoNotOvertake() {
        HeldNotes x = new HeldNotes();
        x.set(0, 9);
        x.set(1, 0);
        x.write(0, 20);
        x.ticks(9);
        CHECK.answers("an answer sets out at 9", 1, () -> x.desk(0, 4));
        x.set(0, 1);
        x.write(0, 20);
        x.ticks(1);
        CHECK.answers("another one at 10", 2, () -> x.desk(0, 5));
        x.ticks(7);
        CHECK.answers("none came by 17", 2, () -> x.desk(0, 5));
        CHECK.answers("both are unanswered", 2, () -> x.writer(0, 1));
        x.ticks(1);
        CHECK.answers("both came at 18", 0, () -> x.desk(0, 5));
        CHECK.answers("all is answered", 2, () -> x.writer(0, 6));
    }

    private static void deskAnswersTheSecondAtOnce() {
        HeldNotes x = new HeldNotes();
        x.write(0, 20);
        x.ticks(2);
        x.write(0, 20);
        x.ticks(1);
        CHECK.answers("one waits", 1, () -> x.desk(0, 2));
        CHECK.answers("till 9", 9, () -> x.desk(0, 3));
        x.ticks(2);
        CHECK.answers("none waits behind the second", 0, () -> x.desk(0, 2));
        CHECK.answers("no time", HeldNotes.NONE, () -> x.desk(0, 3));
        CHECK.answers("one answer", 1, () -> x.desk(0, 4));
        x.ticks(2);
        CHECK.answers("not back at 7", 0, () -> x.writer(0, 6));
        x.ticks(1);
        CHECK.answers("back at 8", 2, () -> x.writer(0, 6));
        x.ticks(2);
        CHECK.answers("nothing more at 10", 1, () -> x.desk(0, 4));
    }

    private static void deskThatWaitsForNothing() {
        HeldNotes x = new HeldNotes();
        x.set(1, 0);
        x.write(0, 60);
        x.ticks(3);
        CHECK.answers("each of three is answered", 3, () -> x.desk(0, 4));
        CHECK.answers("none waits", 0, () -> x.desk(0, 2));
        CHECK.answers("no time", HeldNotes.NONE, () -> x.desk(0, 3));
        x.ticks(3);
        CHECK.answers("all are back", 3, () -> x.writer(0, 6));
    }

    private static void letterAheadOfTheDeskTime() {
        HeldNotes x = new HeldNotes();
        x.write(0, 20);
        x.ticks(6);
        x.write(0, 20);
        x.ticks(3);
        CHECK.answers("the letter at 9 comes ahead of the desk's time 9", 1, () -> x.desk(0, 4));
        CHECK.answers("none waits", 0, () -> x.desk(0, 2));
        x.ticks(3);
        CHECK.answers("both are answered", 2, () -> x.writer(0, 6));
        HeldNotes y = new HeldNotes();
        y.write(0, 20);
        y.ticks(7);
        y.write(0, 20);
        y.ticks(3);
        CHECK.answers("one that comes at 10 waits anew", 16, () -> y.desk(0, 3));
    }

    private static void settingsLeaveWhatIsUnderWay() {
        HeldNotes x = new HeldNotes();
        x.write(0, 20);
        x.set(0, 9);
        x.ticks(3);
        CHECK.answers("the letter came at 3", 20, () -> x.desk(0, 0));
        x.set(1, 20);
        CHECK.answers("the desk's time stays", 9, () -> x.desk(0, 3));
        x.ticks(6);
        CHECK.answers("it answers at 9", 1, () -> x.desk(0, 4));
        x.set(0, 1);
        x.ticks(8);
        CHECK.answers("the answer is under way at 17", 1, () -> x.desk(0, 5));
        x.ticks(1);
        CHECK.answers("it comes at 18", 1, () -> x.writer(0, 6));
        HeldNotes y = new HeldNotes();
        y.write(0, 20);
        y.ticks(3);
        y.set(1, 0);
        y.ticks(5);
        CHECK.answers("a desk that waits goes on waiting", 9, () -> y.desk(0, 3));
        y.ticks(1);
        CHECK.answers("and answers at its time", 1, () -> y.desk(0, 4));
    }

    private static void nothingIsSentWithoutAnAnswer() {
        HeldNotes x = new HeldNotes();
        x.write(0, 99);
        x.set(3, 6);
        x.ticks(5);
        CHECK.answers("the wider window is not used yet", 3, () -> x.writer(0, 4));
        x.ticks(1);
        CHECK.answers("but when an answer came", 4, () -> x.writer(0, 4));
        CHECK.answers("the rest is held", 19, () -> x.writer(0, 0));
    }

    private static void heldTicks() {
        HeldNotes x = new HeldNotes();
        x.write(0, 3);
        x.write(0, 4);
        x.ticks(11);
        CHECK.answers("held in each tick to 11", 11, () -> x.writer(0, 5));
        x.ticks(1);
        CHECK.answers("sent at 12, so not held in it", 11, () -> x.writer(0, 5));
        CHECK.answers("the letter of 12", 15, () -> x.letter(0, 0, 1));
        HeldNotes y = new HeldNotes();
        y.hold(0, false);
        y.write(0, 61);
        y.ticks(2);
        CHECK.answers("a full window holds back too", 2, () -> y.writer(0, 5));
    }

    private static void notesAreWrittenInTheirOrder() {
        HeldNotes x = new HeldNotes();
        x.plan(3, 0, 15);
        x.plan(2, 0, 1);
        x.plan(3, 0, 11);
        x.ticks(2);
        CHECK.answers("the note at 2", 5, () -> x.letter(0, 0, 1));
        CHECK.answers("the others stay", 2, () -> x.about(2));
        CHECK.answers("nothing comes at 3", 0, () -> x.ticks(1));
        CHECK.answers("none is planned", 0, () -> x.about(2));
        CHECK.answers("a full letter of both", 20, () -> x.letter(0, 1, 0));
        CHECK.answers("the rest", 6, () -> x.writer(0, 0));
        CHECK.answers("held in this tick", 1, () -> x.writer(0, 5));
        HeldNotes y = new HeldNotes();
        y.plan(1, 0, 15);
        y.plan(1, 0, 2);
        y.ticks(1);
        CHECK.answers("the first that was planned is the first", 15, () -> y.letter(0, 0, 0));
        CHECK.answers("the second is held", 2, () -> y.writer(0, 0));
    }

    private static void oneAnswerForTwoThatCame() {
        HeldNotes x = new HeldNotes();
        x.set(3, 6);
        x.write(0, 100);
        x.ticks(3);
        CHECK.answers("five letters make two answers at once", 2, () -> x.desk(0, 4));
        CHECK.answers("the fifth waits", 1, () -> x.desk(0, 2));
        x.write(0, 20);
        x.ticks(3);
        CHECK.answers("the sixth makes a third one", 3, () -> x.desk(0, 4));
        CHECK.answers("four are answered", 4, () -> x.writer(0, 6));
        x.ticks(3);
        CHECK.answers("six are answered", 6, () -> x.writer(0, 6));
    }
}
