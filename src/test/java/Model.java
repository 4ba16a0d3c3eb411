import java.util.ArrayList;
import java.util.List;
import java.util.regex.Matcher;
import java.util.regex.Pattern;

/**
 * The document once more, in another way: nothing is counted, but every letter and every answer is
 * kept for ever and all numbers are looked up from them. Slow, and plain on purpose.
 */
final class Model {
    private static final String SIGNS = "(00[1-9]|0[1-9][0-9]|[1-4][0-9][0-9]|500)";
    private static final String TWO = "(0[1-9]|[1-9][0-9])";
    private static final Pattern COMMAND = Pattern.compile(
            "w([0-3])" + SIGNS + "|p" + TWO + "([0-3])" + SIGNS + "|h([0-3])([01])|f([0-3])|t" + TWO);
    private static final Pattern TEXT = Pattern.compile("N[1-4](" + COMMAND.pattern() + ")*");

    private static final class Letter {
        int signs;
        int comes;
        boolean came;
        boolean answered;
    }

    private static final class Answer {
        int tells;
        int comes;
        boolean came;
    }

    private static final class Note {
        int time;
        int k;
        int signs;
    }

    private static final class Side {
        boolean holds = true;
        int written;
        int held;
        int deskTime = -1;
        List<Letter> letters = new ArrayList<>();
        List<Answer> answers = new ArrayList<>();

        int outbox() {
            int left = written;
            for (Letter l : letters) {
                left -= l.signs;
            }
            return left;
        }

        List<Letter> open() {
            List<Letter> list = new ArrayList<>();
            for (Letter l : letters) {
                if (!l.answered) {
                    list.add(l);
                }
            }
            return list;
        }

        int came() {
            int n = 0;
            for (Letter l : letters) {
                n += l.came ? 1 : 0;
            }
            return n;
        }

        int signsCame() {
            int n = 0;
            for (Letter l : letters) {
                n += l.came ? l.signs : 0;
            }
            return n;
        }

        int waiting() {
            return came() - (answers.isEmpty() ? 0 : answers.get(answers.size() - 1).tells);
        }

        int underWay() {
            int n = 0;
            for (Answer a : answers) {
                n += a.came ? 0 : 1;
            }
            return n;
        }
    }

    private static final class State {
        int time;
        int[] set = {3, 6, 20, 3};
        List<Note> notes = new ArrayList<>();
        List<Side> sides = new ArrayList<>();

        State(int writers) {
            for (int i = 0; i < writers; i++) {
                sides.add(new Side());
            }
        }

        State copy() {
            State c = new State(0);
            c.time = time;
            c.set = set.clone();
            c.notes.addAll(notes);
            for (Side s : sides) {
                Side d = new Side();
                d.holds = s.holds;
                d.written = s.written;
                d.held = s.held;
                d.deskTime = s.deskTime;
                for (Letter l : s.letters) {
                    Letter m = new Letter();
                    m.signs = l.signs;
                    m.comes = l.comes;
                    m.came = l.came;
                    m.answered = l.answered;
                    d.letters.add(m);
                }
                for (Answer a : s.answers) {
                    Answer b = new Answer();
                    b.tells = a.tells;
                    b.comes = a.comes;
                    b.came = a.came;
                    d.answers.add(b);
                }
                c.sides.add(d);
            }
            return c;
        }

        Side side(int k) {
            if (k < 0 || k >= sides.size()) {
                throw new IndexOutOfBoundsException();
            }
            return sides.get(k);
        }

        int send(Side s, boolean holding) {
            int sent = 0;
            while (s.outbox() > 0 && s.open().size() < set[3]) {
                int signs;
                if (s.outbox() >= set[2]) {
                    signs = set[2];
                } else if (!holding || s.open().isEmpty()) {
                    signs = s.outbox();
                } else {
                    return sent;
                }
                Letter l = new Letter();
                l.signs = signs;
                l.comes = time + set[0];
                for (Letter earlier : s.letters) {
                    l.comes = Math.max(l.comes, earlier.comes);
                }
                s.letters.add(l);
                sent++;
            }
            return sent;
        }

        void answer(Side s) {
            Answer a = new Answer();
            a.tells = s.came();
            a.comes = time + set[0];
            for (Answer earlier : s.answers) {
                a.comes = Math.max(a.comes, earlier.comes);
            }
            s.answers.add(a);
            s.deskTime = -1;
        }

        int write(int k, int signs) {
            Side s = side(k);
            if (signs < 1 || signs > 500) {
                throw new IllegalArgumentException();
            }
            if (s.outbox() + signs > 9999) {
                throw new IllegalStateException();
            }
            s.written += signs;
            return send(s, s.holds);
        }

        int plan(int in, int k, int signs) {
            side(k);
            if (in < 1 || in > 99 || signs < 1 || signs > 500) {
                throw new IllegalArgumentException();
            }
            if (notes.size() >= 8) {
                throw new IllegalStateException();
            }
            Note n = new Note();
            n.time = time + in;
            n.k = k;
            n.signs = signs;
            notes.add(n);
            return notes.size();
        }

        int hold(int k, boolean hold) {
            Side s = side(k);
            s.holds = hold;
            return send(s, hold);
        }

        int flush(int k) {
            return send(side(k), false);
        }

        int set(int what, int v) {
            int[] low = {1, 0, 4, 1};
            int[] high = {9, 20, 99, 6};
            if (what < 0 || what > 3 || v < low[what] || v > high[what]) {
                throw new IllegalArgumentException();
            }
            int before = set[what];
            set[what] = v;
            return before;
        }

        int ticks(int n) {
            if (n < 1 || n > 99) {
                throw new IllegalArgumentException();
            }
            int before = signsCame();
            for (int i = 0; i < n; i++) {
                tick();
            }
            return signsCame() - before;
        }

        int signsCame() {
            int n = 0;
            for (Side s : sides) {
                n += s.signsCame();
            }
            return n;
        }

        int sent() {
            int n = 0;
            for (Side s : sides) {
                n += s.letters.size();
            }
            return n;
        }

        int held() {
            int n = 0;
            for (Side s : sides) {
                n += s.held;
            }
            return n;
        }

        void tick() {
            time++;
            for (Note n : new ArrayList<>(notes)) {
                if (n.time == time) {
                    notes.remove(n);
                    try {
                        write(n.k, n.signs);
                    } catch (IllegalStateException lost) {
                        continue;
                    }
                }
            }
            for (Side s : sides) {
                for (Letter l : s.letters) {
                    if (!l.came && l.comes == time) {
                        l.came = true;
                        if (s.waiting() == 2 || set[1] == 0) {
                            answer(s);
                        } else if (s.deskTime < 0) {
                            s.deskTime = time + set[1];
                        }
                    }
                }
                if (s.deskTime == time) {
                    answer(s);
                }
                boolean any = false;
                for (Answer a : s.answers) {
                    if (!a.came && a.comes == time) {
                        a.came = true;
                        any = true;
                        for (int i = 0; i < a.tells; i++) {
                            s.letters.get(i).answered = true;
                        }
                    }
                }
                if (any) {
                    send(s, s.holds);
                }
                s.held += s.outbox() > 0 ? 1 : 0;
            }
        }

        boolean isDone(int k) {
            for (Note n : notes) {
                if (n.k == k) {
                    return false;
                }
            }
            return side(k).outbox() == 0 && side(k).open().isEmpty();
        }

        int doneIn(int k) {
            side(k);
            State c = copy();
            for (int n = 0; n <= 400; n++) {
                if (c.isDone(k)) {
                    return n;
                }
                c.tick();
            }
            return -1;
        }
    }

    private final StringBuilder text = new StringBuilder();
    private State now = new State(1);
    private final List<State> past = new ArrayList<>();
    private final State[] slots = new State[2];

    int append(int c) {
        if (c < 0 || c > 255) {
            throw new IllegalArgumentException();
        }
        if (text.length() == 120) {
            throw new IllegalStateException();
        }
        return text.append((char) c).length();
    }

    int clearText() {
        int n = text.length();
        text.setLength(0);
        return n;
    }

    /** The first character with which the text can no longer be the beginning of a post. */
    int errorPosition() {
        if (TEXT.matcher(text).matches()) {
            return -1;
        }
        for (int i = 0; i < text.length(); i++) {
            Matcher m = TEXT.matcher(text.substring(0, i + 1));
            if (!m.matches() && !m.hitEnd()) {
                return i;
            }
        }
        return text.length();
    }

    int load() {
        if (errorPosition() != -1) {
            throw new IllegalStateException();
        }
        now = new State(text.charAt(1) - '0');
        past.clear();
        slots[0] = null;
        slots[1] = null;
        int leftOut = 0;
        Matcher m = COMMAND.matcher(text);
        for (int at = 2; at < text.length(); at = m.end()) {
            m.region(at, text.length());
            m.lookingAt();
            try {
                doCommand(m);
            } catch (RuntimeException e) {
                leftOut++;
            }
        }
        return leftOut;
    }

    private void doCommand(Matcher m) {
        switch (m.group().charAt(0)) {
            case 'w':
                now.write(number(m, 1), number(m, 2));
                break;
            case 'p':
                now.plan(number(m, 3), number(m, 4), number(m, 5));
                break;
            case 'h':
                now.hold(number(m, 6), number(m, 7) == 1);
                break;
            case 'f':
                now.flush(number(m, 8));
                break;
            default:
                now.ticks(number(m, 9));
                break;
        }
    }

    private static int number(Matcher m, int group) {
        return Integer.parseInt(m.group(group));
    }

    int about(int what) {
        switch (what) {
            case 0: return now.sides.size();
            case 1: return now.time;
            case 2: return now.notes.size();
            case 3: case 4: case 5: case 6: case 7: case 8: break;
            default: throw new IllegalArgumentException();
        }
        int sum = 0;
        for (int k = 0; k < now.sides.size(); k++) {
            switch (what) {
                case 3: sum += writer(k, 0); break;
                case 4: sum += writer(k, 1); break;
                case 5: sum += writer(k, 4); break;
                case 6: sum += desk(k, 4); break;
                case 7: sum += desk(k, 0); break;
                default: sum += writer(k, 5); break;
            }
        }
        return sum;
    }

    int writer(int k, int what) {
        Side s = now.side(k);
        switch (what) {
            case 0: return s.outbox();
            case 1: return s.open().size();
            case 2: return s.holds ? 1 : 0;
            case 3: return s.written;
            case 4: return s.letters.size();
            case 5: return s.held;
            case 6: return s.letters.size() - s.open().size();
            default: throw new IllegalArgumentException();
        }
    }

    int desk(int k, int what) {
        Side s = now.side(k);
        switch (what) {
            case 0: return s.signsCame();
            case 1: return s.came();
            case 2: return s.waiting();
            case 3: return s.deskTime;
            case 4: return s.answers.size();
            case 5: return s.underWay();
            default: throw new IllegalArgumentException();
        }
    }

    int letter(int k, int i, int what) {
        Letter l = now.side(k).open().get(i);
        if (what != 0 && what != 1) {
            throw new IllegalArgumentException();
        }
        return what == 0 ? l.signs : l.comes;
    }

    int planned(int i, int what) {
        Note n = now.notes.get(i);
        switch (what) {
            case 0: return n.time;
            case 1: return n.k;
            case 2: return n.signs;
            default: throw new IllegalArgumentException();
        }
    }

    int setting(int what) {
        if (what < 0 || what > 3) {
            throw new IllegalArgumentException();
        }
        return now.set[what];
    }

    private void remember(State before) {
        past.add(before);
        if (past.size() > 14) {
            past.remove(0);
        }
    }

    int post(int writers) {
        if (writers < 1 || writers > 4) {
            throw new IllegalArgumentException();
        }
        remember(now);
        int[] set = now.set.clone();
        now = new State(writers);
        now.set = set;
        return writers;
    }

    int write(int k, int signs) {
        State before = now.copy();
        int answer = now.write(k, signs);
        remember(before);
        return answer;
    }

    int plan(int in, int k, int signs) {
        State before = now.copy();
        int answer = now.plan(in, k, signs);
        remember(before);
        return answer;
    }

    int hold(int k, boolean hold) {
        State before = now.copy();
        int answer = now.hold(k, hold);
        remember(before);
        return answer;
    }

    int flush(int k) {
        State before = now.copy();
        int answer = now.flush(k);
        remember(before);
        return answer;
    }

    int ticks(int n) {
        if (n >= 1 && n <= 99 && now.time + n > 99999) {
            throw new IllegalStateException();
        }
        State before = now.copy();
        int answer = now.ticks(n);
        remember(before);
        return answer;
    }

    int set(int what, int v) {
        State before = now.copy();
        int answer = now.set(what, v);
        remember(before);
        return answer;
    }

    int undo() {
        if (past.isEmpty()) {
            throw new IllegalStateException();
        }
        now = past.remove(past.size() - 1);
        return past.size();
    }

    int doneIn(int k) {
        return now.doneIn(k);
    }

    int thereIn(int k, int signs) {
        State c = now.copy();
        try {
            c.write(k, signs);
        } catch (IllegalStateException e) {
            return -1;
        }
        int due = c.side(k).written;
        for (int n = 0; n <= 400; n++) {
            if (c.side(k).signsCame() >= due) {
                return n;
            }
            c.tick();
        }
        return -1;
    }

    int ifHeld(int k, int what) {
        now.side(k);
        if (what < 0 || what > 3) {
            throw new IllegalArgumentException();
        }
        State c = now.copy();
        int before = c.side(k).letters.size();
        c.hold(k, what % 2 == 0);
        if (what < 2) {
            return c.doneIn(k);
        }
        for (int i = 0; i < 400; i++) {
            c.tick();
        }
        return c.side(k).letters.size() - before;
    }

    int best(int what, int k) {
        now.side(k);
        if (what != 1 && what != 2) {
            throw new IllegalArgumentException();
        }
        int best = -1;
        int least = Integer.MAX_VALUE;
        for (int v = what == 1 ? 0 : 4; v <= (what == 1 ? 20 : 99); v++) {
            State c = now.copy();
            c.set(what, v);
            int done = c.doneIn(k);
            if (done >= 0 && done < least) {
                least = done;
                best = v;
            }
        }
        return best;
    }

    int runScript(int n, long script) {
        if (n < 1 || n > 3 || script < 0 || Long.toString(script).length() > 5 * n) {
            throw new IllegalArgumentException();
        }
        String digits = String.format("%0" + 5 * n + "d", script);
        State c = now.copy();
        for (int i = 0; i < n; i++) {
            try {
                if (!succeeds(c, digits.substring(5 * i, 5 * i + 5))) {
                    return i;
                }
            } catch (RuntimeException e) {
                return i;
            }
        }
        return -1;
    }

    private static boolean succeeds(State c, String g) {
        int k = g.charAt(1) - '0';
        int three = Integer.parseInt(g.substring(2));
        int two = Integer.parseInt(g.substring(3));
        if (g.startsWith("1")) {
            c.write(k, three);
            return true;
        }
        if (g.startsWith("200")) {
            c.ticks(two);
            return true;
        }
        if (g.matches("3.00[01]")) {
            c.hold(k, g.endsWith("1"));
            return true;
        }
        if (g.matches("4.000")) {
            c.flush(k);
            return true;
        }
        if (g.matches("5.0..")) {
            c.set(k, two);
            return true;
        }
        if (g.matches("6.0..")) {
            return c.side(k).open().size() <= two;
        }
        if (g.startsWith("7")) {
            return c.side(k).outbox() <= three;
        }
        if (g.startsWith("8")) {
            int done = c.doneIn(k);
            return done != -1 && done <= three;
        }
        int answers = 0;
        for (Side s : c.sides) {
            answers += s.answers.size();
        }
        return g.startsWith("900") && answers <= two;
    }

    int simulate(long seed, int m) {
        if (m < 1 || m > 60) {
            throw new IllegalArgumentException();
        }
        State c = now.copy();
        long x = seed;
        for (int i = 0; i < m; i++) {
            x = x * 6364136223846793005L + 1442695040888963407L;
            int r = (int) (x >>> 33);
            try {
                turn(c, r % 8, r / 8);
            } catch (RuntimeException e) {
                continue;
            }
        }
        int sent = c.sent() - now.sent();
        int held = c.held() - now.held();
        return 10000 * (sent > 999 ? 999 : sent) + (held > 9999 ? 9999 : held);
    }

    private static void turn(State c, int kind, int q) {
        int k = q % 4;
        if (kind <= 2) {
            c.write(k, 1 + q / 4 % 60);
        } else if (kind == 3) {
            c.plan(1 + q / 4 % 30, k, 1 + q / 256 % 60);
        } else if (kind == 4 && q / 8 % 3 == 0) {
            c.hold(k, q / 4 % 2 == 1);
        } else if (kind == 4) {
            c.flush(k);
        } else {
            c.ticks(1 + q % 9);
        }
    }

    int save(int slot) {
        slots[checkedSlot(slot)] = now.copy();
        return now.time;
    }

    int restore(int slot) {
        if (slots[checkedSlot(slot)] == null) {
            throw new IllegalStateException();
        }
        now = slots[slot].copy();
        past.clear();
        return now.time;
    }

    private static int checkedSlot(int slot) {
        if (slot < 0 || slot > 1) {
            throw new IndexOutOfBoundsException();
        }
        return slot;
    }
}
