/** Small notes that writers hold back until their last letter is answered, at desks that answer late. */
public final class HeldNotes {
    public static final int NONE = -1;

    private static final int MOST_CHARACTERS = 120;
    private static final int MOST_WRITERS = 4;
    private static final int MOST_SIGNS_OF_NOTE = 500;
    private static final int MOST_SIGNS_IN_OUTBOX = 9999;
    private static final int MOST_PLANNED = 8;
    private static final int MOST_UNDER_WAY = 6;
    private static final int MOST_TICKS_OF_CALL = 99;
    private static final int LAST_TIME = 99999;
    private static final int MOST_REMEMBERED = 14;
    private static final int SLOTS = 2;
    private static final int LOOK_AHEAD = 400;

    // The settings, by their numbers.
    private static final int TRAVEL = 0;
    private static final int PATIENCE = 1;
    private static final int FULL_LETTER = 2;
    private static final int WINDOW = 3;
    private static final int SETTINGS = 4;
    private static final int[] FIRST_VALUES = {3, 6, 20, 3};
    private static final int[] LOWEST_VALUES = {1, 0, 4, 1};
    private static final int[] HIGHEST_VALUES = {9, 20, 99, 6};

    // The kinds of action. They have numbers, since the methods, the commands of a text, those of a
    // script and the turns of a simulation do the same actions and leave out the same ones.
    private static final int POST = 0;
    private static final int WRITE = 1;
    private static final int PLAN = 2;
    private static final int HOLD = 3;
    private static final int FLUSH = 4;
    private static final int TICKS = 5;
    private static final int SET = 6;

    // What stands against a call: a number, since only the calls of the face throw exceptions.
    private static final int FINE = 0;
    private static final int NO_SUCH_THING = 1;
    private static final int OUT_OF_RANGE = 2;
    private static final int NOT_NOW = 3;

    // Numbers of writers, and then of desks, which about() sums up.
    private static final int OUTBOX = 0;
    private static final int UNANSWERED = 1;
    private static final int LETTERS_SENT = 4;
    private static final int TICKS_HELD = 5;
    private static final int MOST_OF_WRITER = 6;
    private static final int SIGNS_CAME = 0;
    private static final int ANSWERS_SET_OUT = 4;
    private static final int MOST_OF_DESK = 5;

    private final TextBuffer text = new TextBuffer();
    private final Post state = new Post();
    private final Memory memory = new Memory();
    private final Post[] slots = new Post[SLOTS];
    private final boolean[] filled = new boolean[SLOTS];
    // Made once, since a look-ahead or a script would otherwise make a whole post at each call.
    private final Post scriptCopy = new Post();
    private final Post trial = new Post();

    public HeldNotes() {
        for (int i = 0; i < SLOTS; i++) {
            slots[i] = new Post();
        }
    }

    // ---- text

    public int append(int c) throws IllegalArgumentException, IllegalStateException {
        demand(isWithin(c, 0, 255), OUT_OF_RANGE);
        demand(text.length < MOST_CHARACTERS, NOT_NOW);
        text.addCharacter((char) c);
        return text.length;
    }

    public int clearText() {
        int before = text.length;
        text.length = 0;
        return before;
    }

    public int errorPosition() {
        return text.firstError();
    }

    public int load() throws IllegalStateException {
        demand(text.firstError() == NONE, NOT_NOW);
        state.takeFirstSettings();
        state.begin(text.readHead());
        int leftOut = 0;
        for (int i = 0; i < MOST_CHARACTERS && text.readCommand(); i++) {
            if (state.attempt(text.kind, text.first, text.second, text.third) == NONE) {
                leftOut++;
            }
        }
        memory.forgetAll();
        for (int i = 0; i < SLOTS; i++) {
            filled[i] = false;
        }
        return leftOut;
    }

    // ---- what there is

    public int about(int what) throws IllegalArgumentException {
        demand(isWithin(what, 0, 8), OUT_OF_RANGE);
        switch (what) {
            case 0: return state.writers;
            case 1: return state.time;
            case 2: return state.planned.count;
            case 3: return state.sumOfWriters(OUTBOX);
            case 4: return state.sumOfWriters(UNANSWERED);
            case 5: return state.sumOfWriters(LETTERS_SENT);
            case 6: return state.sumOfDesks(ANSWERS_SET_OUT);
            case 7: return state.sumOfDesks(SIGNS_CAME);
            default: return state.sumOfWriters(TICKS_HELD);
        }
    }

    public int writer(int k, int what) throws IndexOutOfBoundsException, IllegalArgumentException {
        refuse(state.faultOfWriter(k));
        demand(isWithin(what, 0, MOST_OF_WRITER), OUT_OF_RANGE);
        return state.pairs[k].numberOfWriter(what);
    }

    public int desk(int k, int what) throws IndexOutOfBoundsException, IllegalArgumentException {
        refuse(state.faultOfWriter(k));
        demand(isWithin(what, 0, MOST_OF_DESK), OUT_OF_RANGE);
        return state.pairs[k].numberOfDesk(what);
    }

    public int letter(int k, int i, int what) throws IndexOutOfBoundsException, IllegalArgumentException {
        refuse(state.faultOfWriter(k));
        Dated letters = state.pairs[k].letters;
        demand(isWithin(i, 0, letters.count - 1), NO_SUCH_THING);
        demand(isWithin(what, 0, 1), OUT_OF_RANGE);
        return what == 0 ? letters.numberAt(i) : letters.timeAt(i);
    }

    public int planned(int i, int what) throws IndexOutOfBoundsException, IllegalArgumentException {
        Dated notes = state.planned;
        demand(isWithin(i, 0, notes.count - 1), NO_SUCH_THING);
        demand(isWithin(what, 0, 2), OUT_OF_RANGE);
        switch (what) {
            case 0: return notes.timeAt(i);
            case 1: return notes.writerAt(i);
            default: return notes.numberAt(i);
        }
    }

    public int setting(int what) throws IllegalArgumentException {
        demand(isWithin(what, 0, SETTINGS - 1), OUT_OF_RANGE);
        return state.settings[what];
    }

    // ---- actions

    public int post(int writers) throws IllegalArgumentException {
        return act(POST, writers, 0, 0);
    }

    public int write(int k, int signs)
            throws IndexOutOfBoundsException, IllegalArgumentException, IllegalStateException {
        return act(WRITE, k, signs, 0);
    }

    public int plan(int in, int k, int signs)
            throws IndexOutOfBoundsException, IllegalArgumentException, IllegalStateException {
        return act(PLAN, in, k, signs);
    }

    public int hold(int k, boolean hold) throws IndexOutOfBoundsException {
        return act(HOLD, k, hold ? 1 : 0, 0);
    }

    public int flush(int k) throws IndexOutOfBoundsException {
        return act(FLUSH, k, 0, 0);
    }

    public int ticks(int n) throws IllegalArgumentException, IllegalStateException {
        refuse(state.faultOf(TICKS, n, 0, 0));
        // The limit stands here alone, since it does not matter for copies of the state.
        demand(state.time + n <= LAST_TIME, NOT_NOW);
        return act(TICKS, n, 0, 0);
    }

    public int set(int what, int v) throws IllegalArgumentException {
        return act(SET, what, v, 0);
    }

    public int undo() throws IllegalStateException {
        demand(memory.count > 0, NOT_NOW);
        memory.takeBack(state);
        return memory.count;
    }

    // ---- what would be

    public int doneIn(int k) throws IndexOutOfBoundsException {
        refuse(state.faultOfWriter(k));
        trial.copyFrom(state);
        return trial.ticksUntilDone(k, LOOK_AHEAD);
    }

    public int thereIn(int k, int signs) throws IndexOutOfBoundsException, IllegalArgumentException {
        int fault = state.faultOf(WRITE, k, signs, 0);
        if (fault == NOT_NOW) {
            return NONE;
        }
        refuse(fault);
        trial.copyFrom(state);
        trial.attempt(WRITE, k, signs, 0);
        return trial.ticksUntilThere(k, trial.pairs[k].written);
    }

    public int ifHeld(int k, int what) throws IndexOutOfBoundsException, IllegalArgumentException {
        refuse(state.faultOfWriter(k));
        demand(isWithin(what, 0, 3), OUT_OF_RANGE);
        trial.copyFrom(state);
        int before = trial.pairs[k].sent;
        trial.attempt(HOLD, k, what == 0 || what == 2 ? 1 : 0, 0);
        if (what < 2) {
            return trial.ticksUntilDone(k, LOOK_AHEAD);
        }
        trial.passTicks(LOOK_AHEAD, k, k + 1);
        return trial.pairs[k].sent - before;
    }

    public int best(int what, int k) throws IndexOutOfBoundsException, IllegalArgumentException {
        refuse(state.faultOfWriter(k));
        demand(isWithin(what, 1, 2), OUT_OF_RANGE);
        int found = NONE;
        int limit = LOOK_AHEAD;
        for (int v = LOWEST_VALUES[what]; v <= HIGHEST_VALUES[what] && limit >= 0; v++) {
            trial.copyFrom(state);
            trial.settings[what] = v;
            int ticks = trial.ticksUntilDone(k, limit);
            if (ticks != NONE) {
                found = v;
                // Only a value that is better than all lower ones may take their place.
                limit = ticks - 1;
            }
        }
        return found;
    }

    // ---- scripts, simulations

    public int runScript(int n, long script) throws IllegalArgumentException {
        demand(isWithin(n, 1, 3), OUT_OF_RANGE);
        long unit = 1;
        for (int i = 1; i < n; i++) {
            unit *= 100000;
        }
        demand(script >= 0 && script < unit * 100000, OUT_OF_RANGE);
        scriptCopy.copyFrom(state);
        for (int i = 0; i < n && unit > 0; i++) {
            if (!doesCommand((int) (script / unit % 100000))) {
                return i;
            }
            unit /= 100000;
        }
        return NONE;
    }

    public int simulate(long seed, int m) throws IllegalArgumentException {
        demand(isWithin(m, 1, 60), OUT_OF_RANGE);
        scriptCopy.copyFrom(state);
        long x = seed;
        for (int i = 0; i < m; i++) {
            x = x * 6364136223846793005L + 1442695040888963407L;
            takeTurn((int) (x >>> 33));
        }
        int sent = scriptCopy.sumOfWriters(LETTERS_SENT) - state.sumOfWriters(LETTERS_SENT);
        int held = scriptCopy.sumOfWriters(TICKS_HELD) - state.sumOfWriters(TICKS_HELD);
        return 10000 * Math.min(sent, 999) + Math.min(held, 9999);
    }

    // ---- save slots

    public int save(int slot) throws IndexOutOfBoundsException {
        demand(isWithin(slot, 0, SLOTS - 1), NO_SUCH_THING);
        slots[slot].copyFrom(state);
        filled[slot] = true;
        return state.time;
    }

    public int restore(int slot) throws IndexOutOfBoundsException, IllegalStateException {
        demand(isWithin(slot, 0, SLOTS - 1), NO_SUCH_THING);
        demand(filled[slot], NOT_NOW);
        state.copyFrom(slots[slot]);
        memory.forgetAll();
        return state.time;
    }

    // ---- helpers

    private static boolean isWithin(int v, int lowest, int highest) {
        return v >= lowest && v <= highest;
    }

    /** Throws the exception of a fault if something does not hold. */
    private static void demand(boolean holds, int fault) {
        if (!holds) {
            refuse(fault);
        }
    }

    private static void refuse(int fault) {
        switch (fault) {
            case NO_SUCH_THING: throw new IndexOutOfBoundsException();
            case OUT_OF_RANGE: throw new IllegalArgumentException();
            case NOT_NOW: throw new IllegalStateException();
            default: return;
        }
    }

    /** Does an action, or throws its exception before anything is remembered. */
    private int act(int kind, int first, int second, int third) {
        refuse(state.faultOf(kind, first, second, third));
        memory.remember(state);
        return state.attempt(kind, first, second, third);
    }

    /** Does a command of a script on the copy, a group of five digits; tells whether it succeeds. */
    private boolean doesCommand(int group) {
        int k = group / 1000 % 10;
        int lastThree = group % 1000;
        int lastTwo = group % 100;
        boolean zeroThird = lastThree < 100;
        boolean zeroBoth = zeroThird && k == 0;
        boolean isWriter = scriptCopy.faultOfWriter(k) == FINE;
        switch (group / 10000) {
            case 1: return scriptCopy.attempt(WRITE, k, lastThree, 0) != NONE;
            case 2: return zeroBoth && scriptCopy.attempt(TICKS, lastTwo, 0, 0) != NONE;
            case 3: return lastThree <= 1 && scriptCopy.attempt(HOLD, k, lastThree, 0) != NONE;
            case 4: return lastThree == 0 && scriptCopy.attempt(FLUSH, k, 0, 0) != NONE;
            case 5: return zeroThird && scriptCopy.attempt(SET, k, lastTwo, 0) != NONE;
            case 6: return zeroThird && isWriter && scriptCopy.pairs[k].letters.count <= lastTwo;
            case 7: return isWriter && scriptCopy.pairs[k].outbox <= lastThree;
            case 8:
                trial.copyFrom(scriptCopy);
                return isWriter && trial.ticksUntilDone(k, Math.min(lastThree, LOOK_AHEAD)) != NONE;
            case 9: return zeroBoth && scriptCopy.sumOfDesks(ANSWERS_SET_OUT) <= lastTwo;
            default: return false;
        }
    }

    /** Does a turn of a simulation on the copy, which leaves out what would throw an exception. */
    private void takeTurn(int r) {
        int q = r / 8;
        int k = q % 4;
        switch (r % 8) {
            case 0:
            case 1:
            case 2:
                scriptCopy.attempt(WRITE, k, 1 + q / 4 % 60, 0);
                break;
            case 3:
                scriptCopy.attempt(PLAN, 1 + q / 4 % 30, k, 1 + q / 256 % 60);
                break;
            case 4:
                if (q / 8 % 3 == 0) {
                    scriptCopy.attempt(HOLD, k, q / 4 % 2, 0);
                } else {
                    scriptCopy.attempt(FLUSH, k, 0, 0);
                }
                break;
            default:
                scriptCopy.attempt(TICKS, 1 + q % 9, 0, 0);
                break;
        }
    }

    /** Things that have a time, a writer and a number each; the rows are made once and used again. */
    private static final class Dated {
        private final int[] times;
        private final int[] writers;
        private final int[] numbers;
        private int count = 0;

        Dated(int most) {
            int size = Math.max(most, 0);
            times = new int[size];
            writers = new int[size];
            numbers = new int[size];
        }

        /** Like the other two, NONE where nothing is, so that the last time of none is ahead of all. */
        int timeAt(int i) {
            return i >= 0 && i < count && i < times.length ? times[i] : NONE;
        }

        int writerAt(int i) {
            return i >= 0 && i < count && i < writers.length ? writers[i] : NONE;
        }

        int numberAt(int i) {
            return i >= 0 && i < count && i < numbers.length ? numbers[i] : NONE;
        }

        void addLast(int time, int writer, int number) {
            if (count >= 0 && count < times.length) {
                times[count] = time;
                writers[count] = writer;
                numbers[count] = number;
                count++;
            }
        }

        void dropAt(int i) {
            if (i < 0 || i >= count) {
                return;
            }
            for (int j = i; j + 1 < count && j + 1 < times.length; j++) {
                times[j] = times[j + 1];
                writers[j] = writers[j + 1];
                numbers[j] = numbers[j + 1];
            }
            count--;
        }

        void copyFrom(Dated other) {
            count = Math.min(other.count, times.length);
            for (int i = 0; i < count && i < other.times.length; i++) {
                times[i] = other.times[i];
                writers[i] = other.writers[i];
                numbers[i] = other.numbers[i];
            }
        }
    }

    /** A writer with the desk that the letters go to. */
    private static final class Pair {
        private final int self;
        private final Dated letters = new Dated(MOST_UNDER_WAY);
        private int outbox;
        private boolean holdsBack;
        private int written;
        private int sent;
        private int answered;
        private int ticksHeld;
        // From here on it is the desk's. An answer's number is how many letters it tells; each tells
        // more than the one ahead of it, so no more are under way than letters are unanswered.
        private final Dated answers = new Dated(MOST_UNDER_WAY);
        private int signsCame;
        private int lettersCame;
        private int waiting;
        private int answerTime;
        private int answersSetOut;

        Pair(int self) {
            this.self = self;
        }

        void begin() {
            letters.count = 0;
            outbox = 0;
            holdsBack = true;
            written = 0;
            sent = 0;
            answered = 0;
            ticksHeld = 0;
            answers.count = 0;
            signsCame = 0;
            lettersCame = 0;
            waiting = 0;
            answerTime = NONE;
            answersSetOut = 0;
        }

        void copyFrom(Pair other) {
            letters.copyFrom(other.letters);
            outbox = other.outbox;
            holdsBack = other.holdsBack;
            written = other.written;
            sent = other.sent;
            answered = other.answered;
            ticksHeld = other.ticksHeld;
            answers.copyFrom(other.answers);
            signsCame = other.signsCame;
            lettersCame = other.lettersCame;
            waiting = other.waiting;
            answerTime = other.answerTime;
            answersSetOut = other.answersSetOut;
        }

        int numberOfWriter(int what) {
            switch (what) {
                case OUTBOX: return outbox;
                case UNANSWERED: return letters.count;
                case 2: return holdsBack ? 1 : 0;
                case 3: return written;
                case LETTERS_SENT: return sent;
                case TICKS_HELD: return ticksHeld;
                default: return answered;
            }
        }

        int numberOfDesk(int what) {
            switch (what) {
                case SIGNS_CAME: return signsCame;
                case 1: return lettersCame;
                case 2: return waiting;
                case 3: return answerTime;
                case ANSWERS_SET_OUT: return answersSetOut;
                default: return answers.count;
            }
        }

        boolean hasRoomFor(int signs) {
            return outbox + signs <= MOST_SIGNS_IN_OUTBOX;
        }

        void addNote(int signs) {
            outbox += signs;
            written += signs;
        }

        /** Sends what can be sent; returns how many letters that are. */
        int sendLetters(int now, int[] settings, boolean holding) {
            int before = sent;
            for (int free = settings[WINDOW] - letters.count; free > 0; free--) {
                int signs = signsOfNextLetter(settings[FULL_LETTER], holding);
                if (signs == 0) {
                    break;
                }
                int lastTime = letters.timeAt(letters.count - 1);
                letters.addLast(Math.max(now + settings[TRAVEL], lastTime), self, signs);
                outbox -= signs;
                sent++;
            }
            return sent - before;
        }

        int signsOfNextLetter(int full, boolean holding) {
            if (outbox >= full) {
                return full;
            }
            return !holding || letters.count == 0 ? outbox : 0;
        }

        /** Takes in the letters that come to the desk now; returns their signs. */
        int receiveLetters(int now, int[] settings) {
            int before = signsCame;
            // The letters that came and are not answered yet stand ahead of those under way.
            for (int i = lettersCame - answered; i < letters.count && letters.timeAt(i) == now; i++) {
                signsCame += letters.numberAt(i);
                lettersCame++;
                waiting++;
                if (waiting == 2 || settings[PATIENCE] == 0) {
                    sendAnswer(now, settings[TRAVEL]);
                } else if (answerTime == NONE) {
                    answerTime = now + settings[PATIENCE];
                }
            }
            return signsCame - before;
        }

        void sendAnswer(int now, int travel) {
            int lastTime = answers.timeAt(answers.count - 1);
            answers.addLast(Math.max(now + travel, lastTime), self, lettersCame);
            answersSetOut++;
            waiting = 0;
            answerTime = NONE;
        }

        /** Takes away the letters that are answered now; tells whether any answer came. */
        boolean receiveAnswers(int now) {
            boolean any = false;
            for (int left = answers.count; left > 0 && answers.timeAt(0) == now; left--) {
                int told = answers.numberAt(0);
                for (; answered < told; answered++) {
                    letters.dropAt(0);
                }
                answers.dropAt(0);
                any = true;
            }
            return any;
        }
    }

    /** The state: all that actions change and that undo brings back. */
    private static final class Post {
        private int writers;
        private int time;
        private final int[] settings = new int[SETTINGS];
        private final Dated planned = new Dated(MOST_PLANNED);
        private final Pair[] pairs = new Pair[MOST_WRITERS];

        Post() {
            for (int k = 0; k < MOST_WRITERS; k++) {
                pairs[k] = new Pair(k);
            }
            takeFirstSettings();
            begin(1);
        }

        void takeFirstSettings() {
            for (int i = 0; i < SETTINGS; i++) {
                settings[i] = FIRST_VALUES[i];
            }
        }

        void begin(int newWriters) {
            writers = newWriters;
            time = 0;
            planned.count = 0;
            for (int k = 0; k < MOST_WRITERS; k++) {
                pairs[k].begin();
            }
        }

        void copyFrom(Post other) {
            writers = other.writers;
            time = other.time;
            for (int i = 0; i < SETTINGS; i++) {
                settings[i] = other.settings[i];
            }
            planned.copyFrom(other.planned);
            for (int k = 0; k < MOST_WRITERS; k++) {
                pairs[k].copyFrom(other.pairs[k]);
            }
        }

        int sumOfWriters(int what) {
            int sum = 0;
            for (int k = 0; k < MOST_WRITERS; k++) {
                sum += pairs[k].numberOfWriter(what);
            }
            return sum;
        }

        int sumOfDesks(int what) {
            int sum = 0;
            for (int k = 0; k < MOST_WRITERS; k++) {
                sum += pairs[k].numberOfDesk(what);
            }
            return sum;
        }

        int faultOfWriter(int k) {
            return k >= 0 && k < writers && k < MOST_WRITERS ? FINE : NO_SUCH_THING;
        }

        /** Tells why an action would throw an exception; FINE if it would not. */
        int faultOf(int kind, int first, int second, int third) {
            switch (kind) {
                case POST: return isWithin(first, 1, MOST_WRITERS) ? FINE : OUT_OF_RANGE;
                case WRITE: return faultOfNote(first, second);
                case PLAN: return faultOfPlan(first, second, third);
                case HOLD:
                case FLUSH: return faultOfWriter(first);
                case TICKS: return isWithin(first, 1, MOST_TICKS_OF_CALL) ? FINE : OUT_OF_RANGE;
                default: return isValue(first, second) ? FINE : OUT_OF_RANGE;
            }
        }

        int faultOfNote(int k, int signs) {
            if (faultOfWriter(k) != FINE) {
                return NO_SUCH_THING;
            }
            if (!isWithin(signs, 1, MOST_SIGNS_OF_NOTE)) {
                return OUT_OF_RANGE;
            }
            return pairs[k].hasRoomFor(signs) ? FINE : NOT_NOW;
        }

        int faultOfPlan(int in, int k, int signs) {
            if (faultOfWriter(k) != FINE) {
                return NO_SUCH_THING;
            }
            if (!isWithin(in, 1, MOST_TICKS_OF_CALL) || !isWithin(signs, 1, MOST_SIGNS_OF_NOTE)) {
                return OUT_OF_RANGE;
            }
            return planned.count < MOST_PLANNED ? FINE : NOT_NOW;
        }

        boolean isValue(int what, int v) {
            return isWithin(what, 0, SETTINGS - 1) && isWithin(v, LOWEST_VALUES[what], HIGHEST_VALUES[what]);
        }

        /** Does an action and returns what it answers, which is never negative; NONE if it would throw. */
        int attempt(int kind, int first, int second, int third) {
            if (faultOf(kind, first, second, third) != FINE) {
                return NONE;
            }
            switch (kind) {
                case POST:
                    begin(first);
                    return first;
                case WRITE:
                    pairs[first].addNote(second);
                    return pairs[first].sendLetters(time, settings, pairs[first].holdsBack);
                case PLAN:
                    planned.addLast(time + first, second, third);
                    return planned.count;
                case HOLD:
                    pairs[first].holdsBack = second == 1;
                    return pairs[first].sendLetters(time, settings, pairs[first].holdsBack);
                case FLUSH:
                    return pairs[first].sendLetters(time, settings, false);
                case TICKS:
                    return passTicks(first, 0, writers);
                default:
                    return replaceSetting(first, second);
            }
        }

        int replaceSetting(int what, int v) {
            int before = settings[what];
            settings[what] = v;
            return before;
        }

        /**
         * Lets ticks go by for the writers from one up to the one before another; returns the signs
         * that come to their desks. A look-ahead passes the one writer it asks for, since no writer
         * changes anything of another.
         */
        int passTicks(int n, int from, int end) {
            int signs = 0;
            for (int i = 0; i < n; i++) {
                time++;
                writeDueNotes();
                for (int k = Math.max(from, 0); k < end && k < MOST_WRITERS; k++) {
                    Pair one = pairs[k];
                    signs += one.receiveLetters(time, settings);
                    if (one.answerTime == time) {
                        one.sendAnswer(time, settings[TRAVEL]);
                    }
                    if (one.receiveAnswers(time)) {
                        one.sendLetters(time, settings, one.holdsBack);
                    }
                    if (one.outbox > 0) {
                        one.ticksHeld++;
                    }
                }
            }
            return signs;
        }

        void writeDueNotes() {
            int i = 0;
            for (int left = planned.count; left > 0; left--) {
                if (planned.timeAt(i) != time) {
                    i++;
                    continue;
                }
                int k = planned.writerAt(i);
                int signs = planned.numberAt(i);
                planned.dropAt(i);
                // A note that the outbox has no room for is lost.
                if (faultOfNote(k, signs) == FINE) {
                    pairs[k].addNote(signs);
                    pairs[k].sendLetters(time, settings, pairs[k].holdsBack);
                }
            }
        }

        boolean hasPlannedFor(int k) {
            for (int i = 0; i < planned.count; i++) {
                if (planned.writerAt(i) == k) {
                    return true;
                }
            }
            return false;
        }

        boolean isDone(int k) {
            return pairs[k].outbox == 0 && pairs[k].letters.count == 0 && !hasPlannedFor(k);
        }

        /** Lets ticks go by until all of a writer is answered; returns how many, NONE if more than most. */
        int ticksUntilDone(int k, int most) {
            for (int n = 0; n <= most; n++) {
                if (isDone(k)) {
                    return n;
                }
                passTicks(1, k, k + 1);
            }
            return NONE;
        }

        /** Lets ticks go by until so many signs came to a desk; returns how many, NONE if too many. */
        int ticksUntilThere(int k, int signs) {
            for (int n = 0; n <= LOOK_AHEAD; n++) {
                if (pairs[k].signsCame >= signs) {
                    return n;
                }
                passTicks(1, k, k + 1);
            }
            return NONE;
        }
    }

    /** The states that are remembered for undo: a ring in which the newest takes the oldest one's place. */
    private static final class Memory {
        private final Post[] ring = new Post[MOST_REMEMBERED];
        private int next = 0;
        private int count = 0;

        Memory() {
            for (int i = 0; i < MOST_REMEMBERED; i++) {
                ring[i] = new Post();
            }
        }

        void remember(Post state) {
            if (next >= 0 && next < ring.length) {
                ring[next].copyFrom(state);
            }
            next = (next + 1) % MOST_REMEMBERED;
            count = Math.min(count + 1, MOST_REMEMBERED);
        }

        void takeBack(Post state) {
            if (count > 0) {
                next = (next + MOST_REMEMBERED - 1) % MOST_REMEMBERED;
                count--;
                if (next >= 0 && next < ring.length) {
                    state.copyFrom(ring[next]);
                }
            }
        }

        void forgetAll() {
            count = 0;
        }
    }

    /** The text, and a reader that goes through it and keeps the command that it read last. */
    private static final class TextBuffer {
        private final char[] characters = new char[MOST_CHARACTERS];
        private int length = 0;
        private int place = 0;
        private int error = NONE;
        private int kind = POST;
        private int first = 0;
        private int second = 0;
        private int third = 0;

        void addCharacter(char c) {
            if (length >= 0 && length < characters.length) {
                characters[length] = c;
                length++;
            }
        }

        int firstError() {
            readHead();
            boolean goesOn = true;
            for (int i = 0; goesOn && i < MOST_CHARACTERS; i++) {
                goesOn = readCommand();
            }
            return error;
        }

        /** Begins to read; returns the writers that the text tells. */
        int readHead() {
            place = 0;
            error = NONE;
            if (readLetter() != 'N') {
                error = 0;
            }
            return readNumber(1, 1, MOST_WRITERS);
        }

        /** Reads the next command; false at the end of the text and at an error. */
        boolean readCommand() {
            if (error != NONE || place >= length) {
                return false;
            }
            switch (readLetter()) {
                case 'w':
                    takeCommand(WRITE, readWriter(), readSigns(), 0);
                    break;
                case 'p':
                    takeCommand(PLAN, readTicks(), readWriter(), readSigns());
                    break;
                case 'h':
                    takeCommand(HOLD, readWriter(), readNumber(1, 0, 1), 0);
                    break;
                case 'f':
                    takeCommand(FLUSH, readWriter(), 0, 0);
                    break;
                case 't':
                    takeCommand(TICKS, readTicks(), 0, 0);
                    break;
                default:
                    error = place - 1;
                    break;
            }
            return error == NONE;
        }

        void takeCommand(int newKind, int newFirst, int newSecond, int newThird) {
            kind = newKind;
            first = newFirst;
            second = newSecond;
            third = newThird;
        }

        /** Reads a character; one that no rule allows if the text ends. */
        char readLetter() {
            char c = place >= 0 && place < length && place < characters.length ? characters[place] : ' ';
            place++;
            return c;
        }

        int readWriter() {
            return readNumber(1, 0, MOST_WRITERS - 1);
        }

        int readSigns() {
            return readNumber(3, 1, MOST_SIGNS_OF_NOTE);
        }

        int readTicks() {
            return readNumber(2, 1, MOST_TICKS_OF_CALL);
        }

        /** Reads a number of so many digits; keeps the place of the first that can't begin one in the range. */
        int readNumber(int digits, int lowest, int highest) {
            int number = 0;
            int behind = 1;
            for (int i = 0; i < digits; i++) {
                behind *= 10;
            }
            for (int i = 0; i < digits && error == NONE; i++) {
                char c = readLetter();
                behind /= 10;
                number = number * 10 + (c - '0');
                boolean canBegin = number * behind <= highest && number * behind + behind - 1 >= lowest;
                if (c < '0' || c > '9' || !canBegin) {
                    error = place - 1;
                }
            }
            return number;
        }
    }
}
