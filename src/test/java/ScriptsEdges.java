/** Promises 24 and 25: scripts and simulations. */
final class ScriptsEdges {
    private static final long FACTOR = 6364136223846793005L;
    private static final long ADDED = 1442695040888963407L;
    private static final int TICKS = 5;

    private ScriptsEdges() {
    }

    static void run(Edges e) {
        groups(e);
        writes(e);
        ticks(e);
        holds(e);
        flushes(e);
        sets(e);
        unanswered(e);
        outboxes(e);
        done(e);
        answers(e);
        commandsThatFail(e);
        otherGroups(e);
        decimalNumbers(e);
        indexOfTheFirst(e);
        wrongNumbers(e);
        seeds(e);
        overflow(e);
        writeTurns(e);
        planTurns(e);
        holdTurns(e);
        tickTurns(e);
        turnsLeftOut(e);
        numberOfTurns(e);
        lettersOfTurns(e);
    }

    /** Two writers; writer 0 has two unanswered letters and 5 in the outbox; writer 1 has nothing. */
    private static HeldNotes some() {
        HeldNotes x = new HeldNotes();
        x.post(2);
        x.write(0, 45);
        return x;
    }

    private static void succeed(Edges e, HeldNotes x, int... groups) {
        for (int group : groups) {
            e.answers(group + " succeeds", HeldNotes.NONE, () -> x.runScript(1, group));
        }
    }

    private static void fail(Edges e, HeldNotes x, int... groups) {
        for (int group : groups) {
            e.answers(group + " fails", 0, () -> x.runScript(1, group));
        }
    }

    private static void groups(Edges e) {
        e.says(24, "A script has 1 to 3 commands; each is a group of five decimal digits d1 to d5, and the first"
                + " command is the highest group of the number (with zeros before it, if it has fewer digits).");
        HeldNotes x = some();
        e.answers("one", HeldNotes.NONE, () -> x.runScript(1, 60002L));
        e.answers("the highest of two fails", 0, () -> x.runScript(2, 6000160002L));
        e.answers("the lowest of two fails", 1, () -> x.runScript(2, 6000260001L));
        e.answers("the highest of three fails", 0, () -> x.runScript(3, 600016000260002L));
        e.answers("the one between fails", 1, () -> x.runScript(3, 600026000160002L));
        e.answers("the lowest of three fails", 2, () -> x.runScript(3, 600026000260001L));
        e.answers("three succeed", HeldNotes.NONE, () -> x.runScript(3, 600026000260002L));
        e.answers("a group of zeros before one", 0, () -> x.runScript(2, 60002L));
        e.answers("a group of zeros before two", 0, () -> x.runScript(3, 6000260002L));
        e.answers("zeros alone", 0, () -> x.runScript(1, 0));
        e.answers("zeros alone", 0, () -> x.runScript(3, 0));
        e.says(24, "Runs a script on a copy of the state.");
        e.answers("a command goes on with what the one ahead of it left", HeldNotes.NONE,
                () -> x.runScript(3, 400006000370000L));
        e.answers("the next script does not", HeldNotes.NONE, () -> x.runScript(1, 60002L));
        e.answers("nor does the post", 5, () -> x.writer(0, 0));
    }

    private static void writes(Edges e) {
        e.says(24, "1 k s s s: write(k, sss).");
        HeldNotes x = some();
        succeed(e, x, 10001, 10500, 11001, 11500);
        fail(e, x, 10000, 10501, 10999, 11000, 11501, 12001, 14001, 19500);
        HeldNotes y = ActionsEdges.almostFull();
        succeed(e, y, 10059, 11500);
        fail(e, y, 10060, 10500);
    }

    private static void ticks(Edges e) {
        e.says(24, "2 0 0 n n: ticks(nn).");
        HeldNotes x = some();
        succeed(e, x, 20001, 20099);
        fail(e, x, 20000, 20100, 20199, 20901, 21001, 29099);
        e.answers("it lets so many go by", HeldNotes.NONE, () -> x.runScript(2, 2001880000L));
        e.answers("and not more", 1, () -> x.runScript(2, 2001780000L));
    }

    private static void holds(Edges e) {
        e.says(24, "3 k 0 0 b: hold(k, b is 1).");
        HeldNotes x = some();
        succeed(e, x, 30000, 30001, 31000, 31001);
        fail(e, x, 30002, 30009, 30010, 30011, 30100, 30901, 32000, 32001, 39001);
        e.answers("b of 0 sends 5", HeldNotes.NONE, () -> x.runScript(2, 3000070000L));
        e.answers("b of 1 holds them", 1, () -> x.runScript(2, 3000170000L));
    }

    private static void flushes(Edges e) {
        e.says(24, "4 k 0 0 0: flush(k).");
        HeldNotes x = some();
        succeed(e, x, 40000, 41000);
        fail(e, x, 40001, 40009, 40010, 40100, 40900, 42000, 49000);
        e.answers("it sends 5", HeldNotes.NONE, () -> x.runScript(2, 4000070000L));
    }

    private static void sets(Edges e) {
        e.says(24, "5 s 0 v v: set(s, vv).");
        HeldNotes x = some();
        succeed(e, x, 50001, 50009, 51000, 51020, 52004, 52099, 53001, 53006);
        fail(e, x, 50000, 50010, 51021, 51099, 52003, 52000, 53000, 53007, 54003, 59001, 50101, 51900, 52120);
        e.answers("a desk that waits for 1 is done in 13", HeldNotes.NONE, () -> x.runScript(2, 5100180013L));
        e.answers("and not in 12", 1, () -> x.runScript(2, 5100180012L));
        e.answers("no writer sends by it", 1, () -> x.runScript(2, 5200570004L));
        e.answers("but by hold() then", HeldNotes.NONE, () -> x.runScript(3, 520053000170004L));
    }

    private static void unanswered(Edges e) {
        e.says(24, "6 k 0 u u: succeeds if the writer k has at most uu unanswered letters.");
        HeldNotes x = some();
        succeed(e, x, 60002, 60003, 60099, 61000, 61099);
        fail(e, x, 60001, 60000, 60102, 60199, 60902, 62000, 62099, 69099);
    }

    private static void outboxes(Edges e) {
        e.says(24, "7 k s s s: succeeds if the outbox of the writer k has at most sss signs.");
        HeldNotes x = some();
        succeed(e, x, 70005, 70006, 70999, 71000, 71999);
        fail(e, x, 70004, 70000, 72000, 72999, 79999);
        HeldNotes y = new HeldNotes();
        y.write(0, 500);
        y.write(0, 500);
        y.write(0, 59);
        succeed(e, y, 70999);
        fail(e, y, 70998);
        y.write(0, 1);
        fail(e, y, 70999);
    }

    private static void done(Edges e) {
        e.says(24, "8 k n n n: succeeds if doneIn(k) is at most nnn, and not NONE.");
        HeldNotes x = some();
        e.answers("doneIn(0)", 18, () -> x.doneIn(0));
        succeed(e, x, 80018, 80019, 80999, 81000, 81999);
        fail(e, x, 80017, 80000, 82000, 82999, 89999);
        e.answers("and no tick goes by with it", 1, () -> x.runScript(2, 8001860001L));
        HeldNotes y = TermsEdges.with(3, 14, 20, 1);
        y.write(0, 400);
        succeed(e, y, 80400, 80401, 80999);
        fail(e, y, 80399);
        y.write(0, 1);
        fail(e, y, 80400, 80420, 80999);
    }

    private static void answers(Edges e) {
        e.says(24, "9 0 0 n n: succeeds if at most nn answers have set out so far.");
        HeldNotes x = some();
        succeed(e, x, 90000, 90001, 90099);
        fail(e, x, 90100, 91000, 99000, 99999);
        x.ticks(3);
        succeed(e, x, 90001, 90099);
        fail(e, x, 90000);
        HeldNotes y = TermsEdges.with(1, 0, 4, 6);
        y.post(2);
        y.write(0, 99 * 4);
        y.ticks(99);
        e.answers("answers", 99, () -> y.about(6));
        succeed(e, y, 90099);
        fail(e, y, 90098);
        y.write(1, 4);
        y.ticks(1);
        e.answers("answers of both desks", 100, () -> y.about(6));
        fail(e, y, 90099);
    }

    private static void commandsThatFail(Edges e) {
        e.says(24, "The commands 1 to 5 fail if the method would throw an exception; commands with writers that do not"
                + " exist fail");
        for (int writers = 1; writers <= 4; writers++) {
            HeldNotes x = new HeldNotes();
            x.post(writers);
            for (int k = 0; k <= 9; k++) {
                int at = 1000 * k;
                int[] groups = {10001 + at, 30000 + at, 40000 + at, 60000 + at, 70999 + at, 80000 + at};
                if (k < writers) {
                    succeed(e, x, groups);
                } else {
                    fail(e, x, groups);
                }
            }
        }
    }

    private static void otherGroups(Edges e) {
        e.says(24, "and so does any other group (also one with another digit where a 0 is written, or a b above 1)");
        HeldNotes x = some();
        fail(e, x, 0, 1, 9, 99, 999, 1000, 9999, 20101, 21001, 30010, 30101, 30002, 40001, 40010, 40100, 50101,
                60102, 90101, 91001, 99999);
    }

    private static void decimalNumbers(Edges e) {
        e.says(24, "sss, nn, vv, uu and nnn are decimal numbers.");
        HeldNotes x = some();
        succeed(e, x, 10010, 10100, 20010, 51010, 60010, 70010, 80018, 90010);
        HeldNotes y = new HeldNotes();
        y.post(1);
        y.write(0, 345);
        y.write(0, 60);
        e.answers("the outbox", 345, () -> y.writer(0, 0));
        succeed(e, y, 70345, 70350, 70400);
        fail(e, y, 70344, 70339, 70299);
    }

    private static void indexOfTheFirst(Edges e) {
        e.says(24, "Returns the index, from 0, of the first command that fails; NONE if all succeed.");
        HeldNotes x = some();
        e.answers("0", 0, () -> x.runScript(3, 0));
        e.answers("0, though a later one fails too", 0, () -> x.runScript(2, 6000160001L));
        e.answers("1, though a later one fails too", 1, () -> x.runScript(3, 600026000160001L));
        e.answers("2", 2, () -> x.runScript(3, 600026000200000L));
        e.answers("all succeed", HeldNotes.NONE, () -> x.runScript(3, 200991000160001L));
    }

    private static void wrongNumbers(Edges e) {
        e.says(24, "n: number of commands, 1 to 3");
        HeldNotes x = some();
        e.answers("the least", HeldNotes.NONE, () -> x.runScript(1, 40000));
        e.answers("the most", HeldNotes.NONE, () -> x.runScript(3, 400004000040000L));
        e.says(24, "Throws IllegalArgumentException if n is out of range, or if script is negative or has more than 5 *"
                + " n digits");
        for (int n : new int[] {0, 4, -1, Integer.MIN_VALUE, Integer.MAX_VALUE}) {
            e.refusesAndKeeps(x, n + " commands", Check.ARGUMENT, () -> x.runScript(n, 40000));
            e.refuses("a negative script too", Check.ARGUMENT, () -> x.runScript(n, -1));
        }
        e.says(24, "script: the commands, a number of at most 5 * n digits (0 or more)");
        long most = 1;
        for (int commands = 1; commands <= 3; commands++) {
            int n = commands;
            most *= 100000;
            long behind = most;
            e.answers("the least of " + n, 0, () -> x.runScript(n, 0));
            e.answers("the most of " + n, 0, () -> x.runScript(n, behind - 1));
            for (long script : new long[] {behind, 10 * behind, -1, -behind, Long.MIN_VALUE, Long.MAX_VALUE}) {
                e.refuses("the script " + script + " of " + n, Check.ARGUMENT, () -> x.runScript(n, script));
            }
            // Its lower 32 bits alone would be a script of one command that succeeds.
            e.refuses("a high bit", Check.ARGUMENT, () -> x.runScript(n, (1L << 52) + 40000));
        }
    }

    /** The seed with which a simulation's first x is this one. */
    private static long seedOf(long x) {
        long inverse = FACTOR;
        for (int i = 0; i < 6; i++) {
            inverse *= 2 - FACTOR * inverse;
        }
        return (x - ADDED) * inverse;
    }

    /** The seed with which the first turn has this r. */
    private static long seedOfTurn(int kind, int q) {
        return seedOf((8L * q + kind) << 33);
    }

    /** Four writers whose windows are full, but for writer k, whose letters are answered. */
    private static HeldNotes freeIs(int k) {
        HeldNotes x = TermsEdges.with(9, 20, 4, 1);
        x.post(4);
        for (int other = 0; other < 4; other++) {
            if (other != k) {
                x.write(other, 1);
            }
        }
        return x;
    }

    /** One writer with an unanswered letter, who sends when so many signs are written. */
    private static HeldNotes sendsAt(int signs) {
        HeldNotes x = TermsEdges.with(9, 20, Math.max(signs, 4), 2);
        x.write(0, 1);
        if (signs < 4) {
            x.write(0, 4 - signs);
        }
        return x;
    }

    private static void seeds(Edges e) {
        e.says(25, "seed: any long");
        HeldNotes x = some();
        HeldNotes y = some();
        for (long seed : new long[] {0, 1, -1, Long.MIN_VALUE, Long.MAX_VALUE, 1L << 32, -ADDED}) {
            long due = ScriptsTest.replayed(y, seed, 60, new int[8]);
            e.answers("seed " + seed, due, () -> x.simulate(seed, 60));
            y.post(2);
            y.write(0, 45);
        }
        e.says(25, "Simulates m turns on a copy of the state.");
        e.answers("twice the same", x.simulate(3, 60), () -> x.simulate(3, 60));
    }

    private static void overflow(Edges e) {
        e.says(25, "(with long overflow), and r = (int)");
        e.says(25, "(x >>> 33) is computed. q is r / 8; k is q % 4.");
        for (int k = 0; k < 4; k++) {
            for (int free = 0; free < 4; free++) {
                HeldNotes x = freeIs(free);
                long seed = seedOfTurn(0, k);
                e.answers("k is " + k + ", " + free + " is free", k == free ? 10000 : 0, () -> x.simulate(seed, 1));
            }
        }
        HeldNotes y = freeIs(3);
        // r % 8 is 7 then, so that ticks go by.
        long greatest = seedOf(-1L);
        e.answers("the greatest r", 0, () -> y.simulate(greatest, 1));
        y.write(0, 1);
        int n = 1 + (Integer.MAX_VALUE / 8) % 9;
        e.answers("the greatest r, with a held note", n, () -> y.simulate(greatest, 1));
        long low = seedOf((1L << 33) - 1);
        e.answers("33 low bits are not looked at: write(0, 1)", 0, () -> y.simulate(low, 1));
        HeldNotes z = freeIs(0);
        e.answers("33 low bits are not looked at: write(0, 1)", 10000, () -> z.simulate(low, 1));
    }

    private static void writeTurns(Edges e) {
        e.says(25, "By r % 8: 0 to 2: write(k, 1 + q / 4 % 60).");
        for (int kind = 0; kind <= 2; kind++) {
            long one = seedOfTurn(kind, 0);
            long sixty = seedOfTurn(kind, 4 * 59);
            long oneAgain = seedOfTurn(kind, 4 * 60);
            e.answers("the least", 10000, () -> sendsAt(1).simulate(one, 1));
            e.answers("is not more", 0, () -> sendsAt(2).simulate(one, 1));
            e.answers("the most", 10000, () -> sendsAt(60).simulate(sixty, 1));
            e.answers("is not more", 0, () -> sendsAt(61).simulate(sixty, 1));
            e.answers("and then the least", 10000, () -> sendsAt(1).simulate(oneAgain, 1));
            e.answers("is not more", 0, () -> sendsAt(2).simulate(oneAgain, 1));
        }
    }

    /** A seed with which the first turn has this r, and so many ticks go by in a few turns behind it. */
    private static long seedOfTicksBehind(int r, int ticks, int turns) {
        for (long low = 0; low < 1L << 24; low++) {
            long first = ((long) r << 33) + low;
            long x = first;
            int sum = 0;
            for (int i = 0; i < turns && sum >= 0; i++) {
                x = x * FACTOR + ADDED;
                int next = (int) (x >>> 33);
                sum = next % 8 >= TICKS ? sum + 1 + next / 8 % 9 : -1;
            }
            if (sum == ticks) {
                return seedOf(first);
            }
        }
        throw new IllegalStateException("there is no such seed");
    }

    private static void planTurns(Edges e) {
        e.says(25, "3: plan(1 + q / 4 % 30, k, 1 + q / 256 % 60).");
        HeldNotes x = new HeldNotes();
        long soon = seedOfTicksBehind(3, 1, 1);
        e.answers("the least ticks: it is sent in one", 10000, () -> x.simulate(soon, 2));
        long lateNot = seedOfTicksBehind(8 * 4 * 29 + 3, 29, 4);
        e.answers("the most ticks: it is not sent in 29", 0, () -> x.simulate(lateNot, 5));
        long late = seedOfTicksBehind(8 * 4 * 29 + 3, 30, 4);
        e.answers("the most ticks: it is sent in 30", 10000, () -> x.simulate(late, 5));
        long again = seedOfTicksBehind(8 * 4 * 30 + 3, 1, 1);
        e.answers("and then the least", 10000, () -> x.simulate(again, 2));
        // A note that makes no full letter is held in its tick.
        e.answers("the least signs: 1", 1, () -> sendsAt(1).simulate(soon, 2) / 10000);
        e.answers("are not 2", 0, () -> sendsAt(2).simulate(soon, 2) / 10000);
        int most = 256 * 59;
        int in = 1 + most / 4 % 30;
        long sixty = seedOfTicksBehind(8 * most + 3, in, 4);
        e.answers("the most signs: 60", 10000, () -> sendsAt(60).simulate(sixty, 5));
        e.answers("are not 61", 1, () -> sendsAt(61).simulate(sixty, 5));
    }

    private static void holdTurns(Edges e) {
        e.says(25, "4: hold(k, q / 4 % 2 is 1), if q / 8 % 3 is 0, otherwise flush(k).");
        for (int q = 0; q < 96; q++) {
            long seed = seedOfTurn(4, q);
            boolean isHold = q / 8 % 3 == 0;
            boolean sends = !isHold || q / 4 % 2 == 0;
            for (int k = 0; k < 4; k++) {
                HeldNotes x = TermsEdges.with(9, 20, 20, 2);
                x.post(4);
                x.write(k, 1);
                x.write(k, 1);
                long due = sends && k == q % 4 ? 10000 : 0;
                e.answers("q is " + q + ", a sign of " + k + " is held", due, () -> x.simulate(seed, 1));
            }
        }
    }

    private static void tickTurns(Edges e) {
        e.says(25, "Otherwise: ticks(1 + q % 9).");
        HeldNotes x = TermsEdges.with(9, 20, 20, 1);
        x.write(0, 1);
        x.write(0, 1);
        for (int kind = TICKS; kind <= 7; kind++) {
            for (int q = 0; q <= 9; q++) {
                long seed = seedOfTurn(kind, q);
                e.answers("q is " + q, q == 9 ? 1 : q + 1, () -> x.simulate(seed, 1));
            }
        }
    }

    private static void turnsLeftOut(Edges e) {
        e.says(25, "What would throw an exception is left out.");
        for (int writers = 1; writers <= 4; writers++) {
            HeldNotes x = TermsEdges.with(9, 20, 4, 6);
            x.post(writers);
            for (int k = 0; k < 4; k++) {
                long seed = seedOfTurn(1, k);
                e.answers("write(" + k + ", 1) of " + writers, k < writers ? 10000 : 0, () -> x.simulate(seed, 1));
            }
        }
        HeldNotes y = TermsEdges.with(9, 20, 99, 6);
        long soon = seedOfTicksBehind(3, 1, 1);
        for (int i = 0; i < 7; i++) {
            y.plan(99, 0, 1);
        }
        e.answers("an eighth planned note", 10000, () -> y.simulate(soon, 2));
        y.plan(99, 0, 1);
        e.answers("a ninth", 0, () -> y.simulate(soon, 2));
        HeldNotes z = ActionsEdges.almostFull();
        z.set(3, 4);
        e.answers("a note with which the outbox has 9999 signs", 10000,
                () -> z.simulate(seedOfTurn(0, 4 * 58), 1));
        e.answers("one with which it would have 10000", 0, () -> z.simulate(seedOfTurn(0, 4 * 59), 1));
        for (int q = 0; q <= 8; q += 8) {
            long seed = seedOfTurn(4, q + 2);
            e.answers("hold and flush of a writer that is not there", 0, () -> z.simulate(seed, 1));
        }
    }

    private static void numberOfTurns(Edges e) {
        e.says(25, "m: number of turns, 1 to 60");
        HeldNotes x = some();
        HeldNotes y = some();
        e.answers("the least", ScriptsTest.replayed(y, 11, 1, new int[8]), () -> x.simulate(11, 1));
        HeldNotes z = some();
        e.answers("the most", ScriptsTest.replayed(z, 11, 60, new int[8]), () -> x.simulate(11, 60));
        e.says(25, "Throws IllegalArgumentException if m is out of range");
        for (int m : new int[] {0, 61, -1, Integer.MIN_VALUE, Integer.MAX_VALUE}) {
            e.refusesAndKeeps(x, m + " turns", Check.ARGUMENT, () -> x.simulate(11, m));
        }
    }

    private static void lettersOfTurns(Edges e) {
        e.says(25, "Returns 10000 * (the letters sent in the turns, or 999 if there are more) + (the ticks in the turns"
                + " in which writers were held back, or 9999 if there are more).");
        HeldNotes x = freeIs(0);
        x.write(1, 1);
        x.write(2, 1);
        long nine = seedOfTurn(TICKS, 8);
        e.answers("no letters, nine ticks of two writers", 18, () -> x.simulate(nine, 1));
        long one = seedOfTurn(0, 0);
        e.answers("a letter, no ticks", 10000, () -> x.simulate(one, 1));
        x.ticks(5);
        e.answers("what was counted ahead of the turns does not count", 18, () -> x.simulate(nine, 1));
        for (int letters = 998; letters <= 1001; letters++) {
            exactly(e, letters);
        }
    }

    /**
     * Four writers who send 24 letters in two ticks: so many in the first one, and the others in the
     * second one. From 12 to 20.
     */
    private static HeldNotes inTwoTicks(int letters) {
        HeldNotes x = TermsEdges.with(1, 0, 4, 6);
        x.post(4);
        for (int k = 0; k < 4; k++) {
            x.set(3, (letters + k) / 4);
            for (int i = 0; i < 5; i++) {
                x.write(k, 500);
            }
        }
        x.ticks(1);
        x.set(3, 6);
        for (int k = 0; k < 4; k++) {
            x.flush(k);
        }
        return x;
    }

    /** Looks for turns that send exactly so many letters, which are 83 ticks of this post. */
    private static void exactly(Edges e, int letters) {
        int first = letters - 41 * 24;
        for (long seed = 0; seed < 1000; seed++) {
            for (int m = 40; m <= 60; m++) {
                long all = ScriptsTest.replayed(inTwoTicks(first), seed, m, new int[8]);
                if (all / 10000 == letters) {
                    long s = seed;
                    int turns = m;
                    e.answers(letters + " letters", 10000 * Math.min(letters, 999) + all % 10000,
                            () -> inTwoTicks(first).simulate(s, turns));
                    return;
                }
            }
        }
        e.same("turns that send letters", 0, letters);
    }
}
