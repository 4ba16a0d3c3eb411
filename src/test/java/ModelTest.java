import java.util.Random;
import java.util.function.LongSupplier;

/** Runs of calls of all kinds, each of which must answer what the model of the document answers. */
public final class ModelTest {
    private static final int RUNS = 4000;
    // What later calls of an object answer is free.
    private static final int MOST_CALLS = 512;
    // What is asked in all, of four writers with eight notes and six letters each, is no more than this.
    private static final int CALLS_OF_COMPARISON = 200;
    private static final Check CHECK = new Check();

    private final Random random;
    private final int mood;
    private final int pause;
    private final HeldNotes x = new HeldNotes();
    private final Model m = new Model();
    private final StringBuilder story = new StringBuilder();
    private int made = 0;

    private ModelTest(long seed) {
        random = new Random(seed);
        mood = (int) (seed % 4);
        pause = random.nextInt(5) == 0 ? 1 : 10 + random.nextInt(60);
    }

    public static void main(String[] args) {
        for (long seed = 0; seed < RUNS && !CHECK.isAnyWrong(); seed++) {
            new ModelTest(seed).run();
        }
        CHECK.finish("ModelTest");
    }

    private void run() {
        for (int i = 1; made < MOST_CALLS - CALLS_OF_COMPARISON && !CHECK.isAnyWrong(); i++) {
            doAnyCall();
            if (i % pause == 0) {
                compareAll();
            }
        }
        compareAll();
        if (CHECK.isAnyWrong()) {
            System.out.println("behind these calls: " + story);
        }
    }

    private void both(String call, LongSupplier real, LongSupplier due) {
        if (made < MOST_CALLS) {
            compare(call, real, due);
            story.append(call).append("; ");
        }
    }

    private void compare(String call, LongSupplier real, LongSupplier due) {
        if (made < MOST_CALLS) {
            made++;
            CHECK.same(call, Check.answer(real), Check.answer(due));
        }
    }

    /** A number from lowest to highest, and now and then one that is just outside, or far. */
    private int about(int lowest, int highest) {
        switch (random.nextInt(40)) {
            case 0: return lowest - 1;
            case 1: return highest + 1;
            case 2: return random.nextInt();
            case 3: return lowest;
            case 4: return highest;
            default: return lowest + random.nextInt(highest - lowest + 1);
        }
    }

    private int anyWriter() {
        return about(0, m.about(0) - 1);
    }

    private int anySigns() {
        if (mood == 1) {
            return about(1, 12);
        }
        return mood == 2 && random.nextInt(3) > 0 ? 500 : about(1, random.nextInt(4) == 0 ? 500 : 60);
    }

    private int anyTicks() {
        return about(1, random.nextInt(6) == 0 ? 99 : 12);
    }

    private void doAnyCall() {
        int k = anyWriter();
        int signs = anySigns();
        int n = anyTicks();
        switch (random.nextInt(30)) {
            case 0:
                if (random.nextInt(5) == 0) {
                    int w = about(1, 4);
                    both("post(" + w + ")", () -> x.post(w), () -> m.post(w));
                }
                break;
            case 1: case 2: case 3: case 4: case 5: case 6: case 7:
                both("write(" + k + ", " + signs + ")", () -> x.write(k, signs), () -> m.write(k, signs));
                break;
            case 8: case 9: case 10:
                both("plan(" + n + ", " + k + ", " + signs + ")", () -> x.plan(n, k, signs),
                        () -> m.plan(n, k, signs));
                break;
            case 11:
                boolean hold = mood == 1 || random.nextBoolean();
                both("hold(" + k + ", " + hold + ")", () -> x.hold(k, hold), () -> m.hold(k, hold));
                break;
            case 12:
                both("flush(" + k + ")", () -> x.flush(k), () -> m.flush(k));
                break;
            case 13: case 14: case 15: case 16: case 17: case 18:
                both("ticks(" + n + ")", () -> x.ticks(n), () -> m.ticks(n));
                break;
            case 19: case 20:
                set();
                break;
            case 21:
                both("undo()", x::undo, m::undo);
                break;
            case 22:
                slot();
                break;
            case 23:
                type();
                break;
            default:
                lookAhead(k, signs);
                break;
        }
    }

    private void set() {
        int what = about(0, 3);
        int[] lowest = {1, 0, 4, 1};
        int[] highest = {9, 20, 99, 6};
        int w = Math.floorMod(what, 4);
        int v = about(lowest[w], highest[w]);
        both("set(" + what + ", " + v + ")", () -> x.set(what, v), () -> m.set(what, v));
    }

    private void slot() {
        int slot = about(0, 1);
        if (random.nextBoolean()) {
            both("save(" + slot + ")", () -> x.save(slot), () -> m.save(slot));
        } else {
            both("restore(" + slot + ")", () -> x.restore(slot), () -> m.restore(slot));
        }
    }

    private void lookAhead(int k, int signs) {
        switch (random.nextInt(6)) {
            case 0:
                both("doneIn(" + k + ")", () -> x.doneIn(k), () -> m.doneIn(k));
                break;
            case 1:
                both("thereIn(" + k + ", " + signs + ")", () -> x.thereIn(k, signs), () -> m.thereIn(k, signs));
                break;
            case 2:
                int what = about(0, 3);
                both("ifHeld(" + k + ", " + what + ")", () -> x.ifHeld(k, what), () -> m.ifHeld(k, what));
                break;
            case 3:
                if (random.nextInt(6) == 0) {
                    int w = about(1, 2);
                    both("best(" + w + ", " + k + ")", () -> x.best(w, k), () -> m.best(w, k));
                }
                break;
            case 4:
                int n = about(1, 3);
                long script = anyScript(n);
                both("runScript(" + n + ", " + script + ")", () -> x.runScript(n, script),
                        () -> m.runScript(n, script));
                break;
            default:
                long seed = random.nextLong();
                int turns = about(1, 60);
                both("simulate(" + seed + ", " + turns + ")", () -> x.simulate(seed, turns),
                        () -> m.simulate(seed, turns));
                break;
        }
    }

    private long anyScript(int n) {
        if (random.nextInt(20) == 0) {
            return random.nextLong() >> random.nextInt(64);
        }
        long script = 0;
        for (int i = 0; i < Math.min(n, 3); i++) {
            script = script * 100000 + anyGroup();
        }
        return script;
    }

    private int anyGroup() {
        int kind = random.nextInt(10);
        int k = random.nextInt(m.about(0));
        switch (kind) {
            case 1: return 10000 + k * 1000 + random.nextInt(60);
            case 2: return 20000 + random.nextInt(100);
            case 3: return 30000 + k * 1000 + random.nextInt(2);
            case 4: return 40000 + k * 1000;
            case 5: return 50000 + random.nextInt(5) * 1000 + random.nextInt(25);
            case 6: return 60000 + k * 1000 + random.nextInt(7);
            case 7: return 70000 + k * 1000 + random.nextInt(200);
            case 8: return 80000 + k * 1000 + random.nextInt(200);
            case 9: return 90000 + random.nextInt(100);
            default: return random.nextInt(100000);
        }
    }

    private void type() {
        StringBuilder text = new StringBuilder("N").append(1 + random.nextInt(4));
        int commands = random.nextInt(25);
        for (int i = 0; i < commands && text.length() < 114; i++) {
            addCommand(text);
        }
        if (random.nextInt(3) == 0) {
            text.setCharAt(random.nextInt(text.length()), "Nwphft0123456789 \u00ff".charAt(random.nextInt(18)));
        }
        if (random.nextInt(5) == 0) {
            text.setLength(random.nextInt(text.length() + 1));
        }
        both("clearText()", x::clearText, m::clearText);
        for (int i = 0; i < text.length(); i++) {
            int c = text.charAt(i);
            both("append(" + c + ")", () -> x.append(c), () -> m.append(c));
        }
        int c = about(0, 255);
        if (c < 0 || c > 255) {
            both("append(" + c + ")", () -> x.append(c), () -> m.append(c));
        }
        both("errorPosition()", x::errorPosition, m::errorPosition);
        if (random.nextInt(3) == 0) {
            both("load()", x::load, m::load);
        }
    }

    private void addCommand(StringBuilder text) {
        int k = random.nextInt(4);
        int signs = random.nextInt(3) == 0 ? 500 : 1 + random.nextInt(500);
        int ticks = 1 + random.nextInt(random.nextInt(4) == 0 ? 99 : 12);
        switch (random.nextInt(6)) {
            case 0: text.append('h').append(k).append(random.nextInt(2)); break;
            case 1: text.append('f').append(k); break;
            case 2: text.append(String.format("p%02d%d%03d", ticks, k, signs)); break;
            case 3: text.append(String.format("t%02d", ticks)); break;
            default: text.append(String.format("w%d%03d", k, signs)); break;
        }
    }

    private void compareAll() {
        for (int i = 0; i <= 8; i++) {
            int what = i;
            compare("about(" + what + ")", () -> x.about(what), () -> m.about(what));
        }
        for (int i = 0; i <= 3; i++) {
            int what = i;
            compare("setting(" + what + ")", () -> x.setting(what), () -> m.setting(what));
        }
        for (int i = 0; i < 3 * m.about(2) + 3; i++) {
            int note = i / 3;
            int what = i % 3;
            compare("planned(" + note + ", " + what + ")", () -> x.planned(note, what), () -> m.planned(note, what));
        }
        for (int k = 0; k < m.about(0); k++) {
            compareWriter(k);
        }
    }

    private void compareWriter(int k) {
        for (int i = 0; i <= 6; i++) {
            int what = i;
            compare("writer(" + k + ", " + what + ")", () -> x.writer(k, what), () -> m.writer(k, what));
        }
        for (int i = 0; i <= 5; i++) {
            int what = i;
            compare("desk(" + k + ", " + what + ")", () -> x.desk(k, what), () -> m.desk(k, what));
        }
        for (int i = 0; i < 2 * m.writer(k, 1) + 2; i++) {
            int letter = i / 2;
            int what = i % 2;
            compare("letter(" + k + ", " + letter + ", " + what + ")", () -> x.letter(k, letter, what),
                    () -> m.letter(k, letter, what));
        }
    }
}
