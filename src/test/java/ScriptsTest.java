/** Promises 24 and 25: scripts and simulations. */
public final class ScriptsTest {
    private static final Check CHECK = new Check();

    public static void main(String[] args) {
        promise24Actions();
        promise24Looks();
        promise24Order();
        promise24WrongInputs();
        promise25();
        promise25Turns();
        promise25MostLetters();
        CHECK.finish("ScriptsTest");
    }

    /** Two writers; writer 0 has two unanswered letters and 5 in the outbox; writer 1 has nothing. */
    private static HeldNotes some() {
        HeldNotes x = new HeldNotes();
        x.post(2);
        x.write(0, 45);
        return x;
    }

    private static void one(HeldNotes x, int group, boolean succeeds) {
        CHECK.answers("script " + group, succeeds ? HeldNotes.NONE : 0, () -> x.runScript(1, group));
    }

    private static void promise24Actions() {
        HeldNotes x = some();
        one(x, 10001, true);
        one(x, 11500, true);
        one(x, 10000, false);
        one(x, 10501, false);
        one(x, 12001, false);
        one(x, 19001, false);
        one(x, 20001, true);
        one(x, 20099, true);
        one(x, 20000, false);
        one(x, 20100, false);
        one(x, 21001, false);
        one(x, 30000, true);
        one(x, 31001, true);
        one(x, 30002, false);
        one(x, 30010, false);
        one(x, 30100, false);
        one(x, 32000, false);
        one(x, 40000, true);
        one(x, 41000, true);
        one(x, 42000, false);
        one(x, 40001, false);
        one(x, 40010, false);
        one(x, 40100, false);
        one(x, 50001, true);
        one(x, 50009, true);
        one(x, 50010, false);
        one(x, 50000, false);
        one(x, 51000, true);
        one(x, 51021, false);
        one(x, 52099, true);
        one(x, 52003, false);
        one(x, 53006, true);
        one(x, 53007, false);
        one(x, 50101, false);
        one(x, 54003, false);
        CHECK.keeps(x, "runScript", () -> x.runScript(3, 100102000140000L));
    }

    private static void promise24Looks() {
        HeldNotes x = some();
        one(x, 60002, true);
        one(x, 60001, false);
        one(x, 60099, true);
        one(x, 60102, false);
        one(x, 61000, true);
        one(x, 62099, false);
        one(x, 70005, true);
        one(x, 70004, false);
        one(x, 70999, true);
        one(x, 71000, true);
        one(x, 71999, true);
        one(x, 72999, false);
        CHECK.answers("doneIn(0)", 18, () -> x.doneIn(0));
        one(x, 80018, true);
        one(x, 80017, false);
        one(x, 80999, true);
        one(x, 81000, true);
        one(x, 82999, false);
        one(x, 90000, true);
        one(x, 90100, false);
        one(x, 91000, false);
        one(x, 0, false);
        one(x, 99, false);
        one(x, 9999, false);
        HeldNotes y = new HeldNotes();
        y.set(0, 9);
        y.set(3, 1);
        y.write(0, 500);
        one(y, 80999, false);
        y.ticks(15);
        CHECK.answers("an answer set out", 1, () -> y.about(6));
        one(y, 90000, false);
        one(y, 90001, true);
        one(y, 90099, true);
    }

    private static void promise24Order() {
        HeldNotes x = some();
        CHECK.answers("the first group is the highest", 0, () -> x.runScript(2, 6000140000L));
        CHECK.answers("the second one follows", 1, () -> x.runScript(2, 4000060001L));
        CHECK.answers("with zeros ahead", 0, () -> x.runScript(2, 20001));
        CHECK.answers("a flush sends a third letter", 1, () -> x.runScript(2, 4000060002L));
        CHECK.answers("the state goes on in the script", HeldNotes.NONE,
                () -> x.runScript(2, 4000060003L));
        CHECK.answers("writes, then ticks, then answers", HeldNotes.NONE,
                () -> x.runScript(3, 110072000990002L));
        CHECK.answers("two answers set out by 9", 2, () -> x.runScript(3, 110072000990001L));
        CHECK.answers("one by 8", HeldNotes.NONE, () -> x.runScript(3, 110072000890001L));
        CHECK.answers("the third fails", 2, () -> x.runScript(3, 200012000120000L));
        CHECK.answers("all succeed", HeldNotes.NONE, () -> x.runScript(3, 200012000120001L));
        CHECK.answers("hold false sends 5", HeldNotes.NONE, () -> x.runScript(2, 3000070000L));
        CHECK.answers("hold true does not", 1, () -> x.runScript(2, 3000170000L));
        CHECK.answers("a set lasts", HeldNotes.NONE, () -> x.runScript(3, 500011100180012L));
        CHECK.answers("so that it is done in 12", 2, () -> x.runScript(3, 500011100180011L));
        CHECK.answers("a failed command ends it", 0, () -> x.runScript(3, 0));
        CHECK.answers("scripts begin with the same state", 0, () -> x.runScript(1, 60001));
        CHECK.answers("and leave it", 5, () -> x.writer(0, 0));
        HeldNotes y = new HeldNotes();
        for (int i = 0; i < 20; i++) {
            y.write(0, 500);
        }
        CHECK.answers("an outbox with room for 59", HeldNotes.NONE, () -> y.runScript(1, 10059));
        CHECK.answers("an outbox without", 0, () -> y.runScript(1, 10060));
        CHECK.answers("each takes of it", 1, () -> y.runScript(2, 1003010030L));
    }

    private static void promise24WrongInputs() {
        HeldNotes x = some();
        CHECK.refuses("n of 0", Check.ARGUMENT, () -> x.runScript(0, 0));
        CHECK.refuses("n of 4", Check.ARGUMENT, () -> x.runScript(4, 20001));
        CHECK.refuses("n of -1", Check.ARGUMENT, () -> x.runScript(-1, 20001));
        CHECK.refuses("n of most", Check.ARGUMENT, () -> x.runScript(Integer.MAX_VALUE, 20001));
        CHECK.refuses("a negative script", Check.ARGUMENT, () -> x.runScript(1, -1));
        CHECK.refuses("the least script", Check.ARGUMENT, () -> x.runScript(3, Long.MIN_VALUE));
        CHECK.refuses("six digits", Check.ARGUMENT, () -> x.runScript(1, 100000));
        CHECK.answers("five digits", 0, () -> x.runScript(1, 99999));
        CHECK.refuses("eleven digits", Check.ARGUMENT, () -> x.runScript(2, 10000000000L));
        CHECK.answers("ten digits", 0, () -> x.runScript(2, 9999999999L));
        CHECK.refuses("sixteen digits", Check.ARGUMENT, () -> x.runScript(3, 1000000000000000L));
        CHECK.answers("fifteen digits", 0, () -> x.runScript(3, 999999999999999L));
        CHECK.refuses("the most script", Check.ARGUMENT, () -> x.runScript(3, Long.MAX_VALUE));
    }

    private static void promise25() {
        HeldNotes x = some();
        CHECK.refuses("m of 0", Check.ARGUMENT, () -> x.simulate(1, 0));
        CHECK.refuses("m of 61", Check.ARGUMENT, () -> x.simulate(1, 61));
        CHECK.refuses("m of -1", Check.ARGUMENT, () -> x.simulate(1, -1));
        CHECK.refuses("m of most", Check.ARGUMENT, () -> x.simulate(1, Integer.MAX_VALUE));
        CHECK.keeps(x, "simulate", () -> x.simulate(1, 60));
        CHECK.answers("twice the same", x.simulate(-5, 60), () -> x.simulate(-5, 60));
        for (long seed : new long[] {0, 1, -1, Long.MIN_VALUE, Long.MAX_VALUE}) {
            CHECK.same("a seed is any", Check.answer(() -> x.simulate(seed, 60)).startsWith("throws") ? 1 : 0, 0);
        }
    }

    /** Seeds whose first turns are of each kind, replayed by hand through the actions. */
    private static void promise25Turns() {
        int[] kinds = new int[8];
        for (long seed = 0; seed < 400; seed++) {
            for (int m : new int[] {1, 2, 7, 60}) {
                long due = replayed(fourWriters(), seed, m, kinds);
                HeldNotes x = fourWriters();
                long s = seed;
                CHECK.answers("simulate(" + seed + ", " + m + ")", due, () -> x.simulate(s, m));
            }
        }
        for (int kind = 0; kind < 8; kind++) {
            CHECK.same("kind " + kind + " was among them", kinds[kind] > 0 ? 1 : 0, 1);
        }
    }

    private static HeldNotes fourWriters() {
        HeldNotes x = new HeldNotes();
        x.post(4);
        x.write(1, 25);
        x.write(3, 7);
        x.ticks(2);
        return x;
    }

    private static void promise25MostLetters() {
        int many = 0;
        int few = 0;
        for (long seed = 0; seed < 60; seed++) {
            long all = replayed(fullOutboxes(), seed, 60, new int[8]);
            long sent = all / 10000;
            many += sent > 999 ? 1 : 0;
            few += sent <= 999 ? 1 : 0;
            HeldNotes x = fullOutboxes();
            long s = seed;
            CHECK.answers("simulate(" + seed + ", 60) of full outboxes",
                    10000 * Math.min(sent, 999) + all % 10000, () -> x.simulate(s, 60));
        }
        CHECK.same("some send more than 999", many > 0 ? 1 : 0, 1);
        CHECK.same("some send less", few > 0 ? 1 : 0, 1);
    }

    /** Four writers with thousands of signs, and letters that are small and soon answered. */
    private static HeldNotes fullOutboxes() {
        HeldNotes x = new HeldNotes();
        x.post(4);
        x.set(0, 1);
        x.set(1, 0);
        x.set(2, 4);
        x.set(3, 6);
        for (int k = 0; k < 4; k++) {
            for (int i = 0; i < 12; i++) {
                x.write(k, 500);
            }
        }
        return x;
    }

    static long replayed(HeldNotes x, long seed, int m, int[] kinds) {
        long sent = x.about(5);
        long held = x.about(8);
        long state = seed;
        for (int i = 0; i < m; i++) {
            state = state * 6364136223846793005L + 1442695040888963407L;
            int r = (int) (state >>> 33);
            kinds[r % 8]++;
            try {
                turn(x, r % 8, r / 8);
            } catch (IllegalArgumentException | IllegalStateException | IndexOutOfBoundsException e) {
                continue;
            }
        }
        return 10000 * (x.about(5) - sent) + (x.about(8) - held);
    }

    private static void turn(HeldNotes x, int kind, int q) {
        int k = q % 4;
        switch (kind) {
            case 0: case 1: case 2: x.write(k, 1 + q / 4 % 60); break;
            case 3: x.plan(1 + q / 4 % 30, k, 1 + q / 256 % 60); break;
            case 4:
                if (q / 8 % 3 == 0) {
                    x.hold(k, q / 4 % 2 == 1);
                } else {
                    x.flush(k);
                }
                break;
            default: x.ticks(1 + q % 9); break;
        }
    }
}
