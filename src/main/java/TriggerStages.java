/**
 * Tables whose rows set off triggers in stages, as ../shared/DOC.md promises it.
 *
 * <p>All calls of a run share one room, so what a call needs is made with the object and used again: a statement from
 * outside is carried out on the tables of the one course, and only what did not fail is copied from there.
 */
public final class TriggerStages {
    // Error codes, and NONE: there is none.
    public static final int NO_SUCH = -1, BAD_VALUE = -2, BAD_TEXT = -3, TOO_MANY = -4, NOT_POSSIBLE = -5, NONE = -6;
    // Kinds of statements.
    public static final int LAY = 0, ADD = 1, DROP = 2;
    // Stages.
    public static final int AHEAD = 0, BEHIND = 1, LAST = 2;
    // Reasons.
    public static final int CUT = 1, LONG = 2, MOTION = 3, ROW = 4, REFUSED = 5;

    private static final int TABLES = 4, ROWS = 12, KEYS = 100, NUMBERS = 1000, KINDS = 3;
    private static final int TRIGGERS = 12, STAGES = 3, SHIFTS = 100;
    private static final int REFUSE = 0, FIRST_DEED_OF_A_STATEMENT = 1, DEEDS = 4;
    private static final int FACTS_OF_A_TRIAL = 21, FIRST_BLAMED = 8;
    private static final int SETTING_DEPTH = 0, SETTING_LENIENT = 1;
    private static final int DEPTHS = 9, FIRST_DEPTH = 4, LENIENCES = 2;
    private static final int STATEMENTS = 100;
    private static final int SIGNS = 60;
    private static final int CHANGES = 6, SLOTS = 2;
    private static final int NO_ERROR = 0, NOWHERE = -1;

    private final State now = new State();
    private final Course course = new Course();
    private final Pad pad = new Pad();
    private final History history = new History();
    private final State[] slots = new State[SLOTS];

    public TriggerStages() {
    }

    // ---- triggers

    public int set(int setting, int value) {
        if (setting == SETTING_DEPTH && isWithin(value, DEPTHS)) {
            history.keep(now);
            int previous = now.depth;
            now.depth = value;
            return previous;
        }
        if (setting == SETTING_LENIENT && isWithin(value, LENIENCES)) {
            history.keep(now);
            int previous = now.lenient;
            now.lenient = value;
            return previous;
        }
        return BAD_VALUE;
    }

    public int trigger(int table, int kind, int stage, int bar) {
        if (!isWithin(table, TABLES)) {
            return NO_SUCH;
        }
        if (!isWithin(kind, KINDS) || !isWithin(stage, STAGES) || !isWithin(bar, NUMBERS)) {
            return BAD_VALUE;
        }
        if (now.triggers.size() >= TRIGGERS) {
            return TOO_MANY;
        }
        history.keep(now);
        return now.triggers.append(table, kind, stage, bar);
    }

    public int deed(int trigger, int deed, int target, int shift, int number) {
        if (!isWithin(trigger, now.triggers.size()) || !isWithin(target, TABLES)) {
            return NO_SUCH;
        }
        if (!isWithin(deed, DEEDS) || !isWithin(shift, SHIFTS) || !isWithin(number, NUMBERS)) {
            return BAD_VALUE;
        }
        history.keep(now);
        int previous = now.triggers.get(trigger, Triggers.DEED);
        now.triggers.giveDeed(trigger, deed, target, shift, number);
        return previous;
    }

    public int dropTrigger(int trigger) {
        if (!isWithin(trigger, now.triggers.size())) {
            return NO_SUCH;
        }
        history.keep(now);
        now.triggers.remove(trigger);
        return now.triggers.size();
    }

    // ---- statements

    public int state(int kind, int table, int key, int number) {
        int error = errorOf(kind, table, key, number);
        if (error != NO_ERROR) {
            return error;
        }
        course.run(now, kind, table, key, number, now.depth, NOWHERE);
        if (course.failure.isThere()) {
            return NOT_POSSIBLE;
        }
        history.keep(now);
        takeOver();
        return now.journal.size();
    }

    public int tried(int kind, int table, int key, int number, int what) {
        int error = errorOf(kind, table, key, number);
        if (error != NO_ERROR) {
            return error;
        }
        if (!isWithin(what, FACTS_OF_A_TRIAL)) {
            return BAD_VALUE;
        }
        course.run(now, kind, table, key, number, now.depth, NOWHERE);
        Failure failure = course.failure;
        switch (what) {
            case 0:
                return failure.reason;
            case 1:
                return failure.isThere() ? 0 : course.journal.size();
            case 2:
                return course.begun.size();
            case 3:
                return course.leftOut;
            case 4:
                return course.greatestDepth();
            case 5:
                return failure.table;
            case 6:
                return failure.key;
            case 7:
                return failure.blamed;
            default:
                return failure.blamedAt(what - FIRST_BLAMED);
        }
    }

    // ---- what there is

    public int row(int table, int place, int what) {
        if (!isWithin(table, TABLES) || !isWithin(place, now.tables.sizeOf(table))) {
            return NO_SUCH;
        }
        switch (what) {
            case 0:
                return now.tables.keyAt(table, place);
            case 1:
                return now.tables.numberAt(table, place);
            default:
                return BAD_VALUE;
        }
    }

    public int value(int table, int key) {
        if (!isWithin(table, TABLES)) {
            return NO_SUCH;
        }
        if (!isWithin(key, KEYS)) {
            return BAD_VALUE;
        }
        int place = now.tables.placeOf(table, key);
        return place == NOWHERE ? NONE : now.tables.numberAt(table, place);
    }

    public int ofTrigger(int trigger, int what) {
        if (!isWithin(trigger, now.triggers.size())) {
            return NO_SUCH;
        }
        if (isWithin(what, Triggers.COLUMNS)) {
            return now.triggers.get(trigger, what);
        }
        switch (what) {
            case 8:
                return now.triggers.followers(trigger);
            case 9:
                return now.triggers.couldSetOffItself(trigger) ? 1 : 0;
            default:
                return BAD_VALUE;
        }
    }

    public int journal(int place, int what) {
        if (!isWithin(place, now.journal.size())) {
            return NO_SUCH;
        }
        if (!isWithin(what, Course.JOURNAL_COLUMNS)) {
            return BAD_VALUE;
        }
        return now.journal.get(place, what);
    }

    public int count(int what) {
        switch (what) {
            case 0:
            case 1:
            case 2:
            case 3:
                return now.tables.sizeOf(what);
            case 4:
                return now.triggers.size();
            case 5:
                return now.journal.size();
            case 6:
                return now.tables.sumOfNumbers();
            case 7:
                return now.depth;
            case 8:
                return now.lenient;
            case 9:
                return now.triggers.thoseThatCouldSetOffThemselves();
            case 10:
                return pad.length();
            case 11:
                return history.size();
            default:
                return BAD_VALUE;
        }
    }

    // ---- what if; nothing changes

    public int culprits(int kind, int table, int key, int number) {
        int error = errorOf(kind, table, key, number);
        if (error != NO_ERROR) {
            return error;
        }
        course.run(now, kind, table, key, number, now.depth, NOWHERE);
        if (!course.failure.isThere()) {
            return NONE;
        }
        int found = 0;
        for (int without = 0; without < now.triggers.size(); without++) {
            course.run(now, kind, table, key, number, now.depth, without);
            if (!course.failure.isThere()) {
                found |= 1 << without;
            }
        }
        return found;
    }

    public int leastDepth(int kind, int table, int key, int number) {
        int error = errorOf(kind, table, key, number);
        if (error != NO_ERROR) {
            return error;
        }
        for (int depth = 0; depth < DEPTHS; depth++) {
            course.run(now, kind, table, key, number, depth, NOWHERE);
            if (!course.failure.isThere()) {
                return depth;
            }
        }
        return NONE;
    }

    // ---- texts

    public int put(long characters) {
        int added = Pad.signsIn(characters);
        if (added == 0) {
            return BAD_VALUE;
        }
        if (added > SIGNS - pad.length()) {
            return TOO_MANY;
        }
        pad.append(characters, added);
        return pad.length();
    }

    public int wipe() {
        int length = pad.length();
        pad.clear();
        return length;
    }

    public int fault() {
        return pad.read();
    }

    public int carryOut() {
        if (pad.read() != NONE) {
            return BAD_TEXT;
        }
        history.keep(now);
        int carried = 0;
        for (; carried < pad.statements(); carried++) {
            course.run(now, pad.get(carried, Pad.KIND), pad.get(carried, Pad.TABLE),
                    pad.get(carried, Pad.KEY), pad.get(carried, Pad.NUMBER), now.depth, NOWHERE);
            if (course.failure.isThere()) {
                break;
            }
            takeOver();
        }
        pad.clear();
        return carried;
    }

    // ---- undo, saving

    public int undo() {
        if (!history.takeBack(now)) {
            return NOT_POSSIBLE;
        }
        return history.size();
    }

    public int save(int slot) {
        if (!isWithin(slot, SLOTS)) {
            return BAD_VALUE;
        }
        State saved = slots[slot];
        if (saved == null) {
            saved = new State();
            slots[slot] = saved;
        }
        saved.copyFrom(now);
        return now.tables.rows();
    }

    public int restore(int slot) {
        if (!isWithin(slot, SLOTS)) {
            return BAD_VALUE;
        }
        State saved = slots[slot];
        if (saved == null) {
            return NOT_POSSIBLE;
        }
        history.keep(now);
        now.copyFrom(saved);
        return now.tables.rows();
    }

    // ---- helpers

    private static boolean isWithin(int value, int limit) {
        return value >= 0 && value < limit;
    }

    /** Returns the error of a statement's arguments, NO_ERROR if there is none. */
    private static int errorOf(int kind, int table, int key, int number) {
        if (!isWithin(table, TABLES)) {
            return NO_SUCH;
        }
        if (!isWithin(kind, KINDS) || !isWithin(key, KEYS) || !isWithin(number, NUMBERS)) {
            return BAD_VALUE;
        }
        return NO_ERROR;
    }

    /** Keeps what the course did on tables of its own. */
    private void takeOver() {
        now.tables.copyFrom(course.tables);
        now.journal.copyFrom(course.journal);
    }

    /** Lines of numbers, all of one width; what is outside them reads as NOWHERE, and cannot be changed. */
    static final class Sheet {
        private final int limit;
        private final int width;
        private final int[] cells;
        private int size = 0;

        Sheet(int limit, int width) {
            this.limit = Math.max(limit, 0);
            this.width = Math.max(width, 0);
            cells = new int[this.limit * this.width];
        }

        void copyFrom(Sheet other) {
            int used = Math.min(other.size * other.width, Math.min(other.cells.length, cells.length));
            System.arraycopy(other.cells, 0, cells, 0, used);
            size = Math.min(other.size, limit);
        }

        void clear() {
            size = 0;
        }

        int size() {
            return size;
        }

        int get(int line, int column) {
            boolean isThere = line >= 0 && line < size && column >= 0 && column < width;
            return isThere ? cells[line * width + column] : NOWHERE;
        }

        void change(int line, int column, int number) {
            if (line >= 0 && line < size && column >= 0 && column < width) {
                cells[line * width + column] = number;
            }
        }

        /** Appends a line, whose numbers are those that stood there last, and returns its place. */
        int append() {
            if (size >= limit) {
                return NOWHERE;
            }
            size++;
            return size - 1;
        }

        void remove(int line) {
            if (line < 0 || line >= size) {
                return;
            }
            size--;
            for (int cell = line * width; cell < size * width; cell++) {
                cells[cell] = cells[cell + width];
            }
        }
    }

    /** Everything but the pad, the slots and the history. */
    static final class State {
        final Tables tables = new Tables();
        final Triggers triggers = new Triggers();
        final Sheet journal = new Sheet(STATEMENTS, Course.JOURNAL_COLUMNS);
        int depth = FIRST_DEPTH;
        int lenient = 0;

        void copyFrom(State other) {
            tables.copyFrom(other.tables);
            triggers.copyFrom(other.triggers);
            journal.copyFrom(other.journal);
            depth = other.depth;
            lenient = other.lenient;
        }
    }

    /** The states ahead of the latest changes; it keeps them in a ring, whose places are used again. */
    static final class History {
        private final State[] ring = new State[CHANGES];
        private int oldest = 0;
        private int size = 0;

        int size() {
            return size;
        }

        void keep(State state) {
            if (size == CHANGES) {
                oldest = (oldest + 1) % CHANGES;
                size--;
            }
            int at = (oldest + size) % CHANGES;
            if (!isWithin(at, CHANGES)) {
                return;
            }
            State kept = ring[at];
            if (kept == null) {
                kept = new State();
                ring[at] = kept;
            }
            kept.copyFrom(state);
            size++;
        }

        /** Puts the latest state that is kept into this one, and forgets it; false if none is kept. */
        boolean takeBack(State state) {
            if (size == 0) {
                return false;
            }
            int at = (oldest + size - 1) % CHANGES;
            State kept = isWithin(at, CHANGES) ? ring[at] : null;
            if (kept == null) {
                return false;
            }
            state.copyFrom(kept);
            size--;
            return true;
        }
    }

    /** The rows of all tables; those of a table stand in ascending order of their keys. */
    static final class Tables {
        private final int[] sizes = new int[TABLES];
        private final int[] keys = new int[TABLES * ROWS];
        private final int[] numbers = new int[TABLES * ROWS];

        void copyFrom(Tables other) {
            System.arraycopy(other.sizes, 0, sizes, 0, TABLES);
            System.arraycopy(other.keys, 0, keys, 0, TABLES * ROWS);
            System.arraycopy(other.numbers, 0, numbers, 0, TABLES * ROWS);
        }

        int sizeOf(int table) {
            return isWithin(table, TABLES) ? sizes[table] : 0;
        }

        int rows() {
            int rows = 0;
            for (int table = 0; table < TABLES; table++) {
                rows += sizes[table];
            }
            return rows;
        }

        int sumOfNumbers() {
            int sum = 0;
            for (int table = 0; table < TABLES; table++) {
                for (int place = 0; place < sizes[table]; place++) {
                    sum += numberAt(table, place);
                }
            }
            return sum;
        }

        int keyAt(int table, int place) {
            return isWithin(place, sizeOf(table)) ? keys[table * ROWS + place] : NOWHERE;
        }

        int numberAt(int table, int place) {
            return isWithin(place, sizeOf(table)) ? numbers[table * ROWS + place] : NOWHERE;
        }

        int placeOf(int table, int key) {
            int size = sizeOf(table);
            for (int place = 0; place < size; place++) {
                if (keys[table * ROWS + place] == key) {
                    return place;
                }
            }
            return NOWHERE;
        }

        /** Returns the weight of a statement, NOWHERE if the statement is not possible. */
        int weightOf(int kind, int table, int key, int number) {
            int place = placeOf(table, key);
            if (kind == LAY) {
                return place == NOWHERE && sizeOf(table) < ROWS ? number : NOWHERE;
            }
            if (place == NOWHERE) {
                return NOWHERE;
            }
            if (kind == DROP) {
                return numberAt(table, place);
            }
            int sum = numberAt(table, place) + number;
            return sum < NUMBERS ? sum : NOWHERE;
        }

        /** Does a statement that is possible and has this weight. */
        void apply(int kind, int table, int key, int weight) {
            if (kind == LAY) {
                insert(table, key, weight);
            } else if (kind == ADD) {
                renumber(table, placeOf(table, key), weight);
            } else {
                remove(table, placeOf(table, key));
            }
        }

        private void insert(int table, int key, int number) {
            if (!isWithin(table, TABLES) || sizes[table] >= ROWS) {
                return;
            }
            int first = table * ROWS;
            int at = first + sizes[table];
            for (; at > first && keys[at - 1] > key; at--) {
                keys[at] = keys[at - 1];
                numbers[at] = numbers[at - 1];
            }
            keys[at] = key;
            numbers[at] = number;
            sizes[table]++;
        }

        private void renumber(int table, int place, int number) {
            if (isWithin(table, TABLES) && isWithin(place, sizes[table])) {
                numbers[table * ROWS + place] = number;
            }
        }

        private void remove(int table, int place) {
            if (!isWithin(table, TABLES) || !isWithin(place, sizes[table])) {
                return;
            }
            sizes[table]--;
            int last = table * ROWS + sizes[table];
            for (int at = table * ROWS + place; at < last; at++) {
                keys[at] = keys[at + 1];
                numbers[at] = numbers[at + 1];
            }
        }
    }

    /** The triggers, in the order of their numbers. */
    static final class Triggers {
        static final int TABLE = 0, KIND = 1, STAGE = 2, BAR = 3, DEED = 4, TARGET = 5, SHIFT = 6, NUMBER = 7;
        static final int COLUMNS = 8;

        final Sheet sheet = new Sheet(TRIGGERS, COLUMNS);

        void copyFrom(Triggers other) {
            sheet.copyFrom(other.sheet);
        }

        int size() {
            return sheet.size();
        }

        int get(int trigger, int column) {
            return sheet.get(trigger, column);
        }

        /** Appends a trigger that refuses, and returns its number. */
        int append(int table, int kind, int stage, int bar) {
            int trigger = sheet.append();
            sheet.change(trigger, TABLE, table);
            sheet.change(trigger, KIND, kind);
            sheet.change(trigger, STAGE, stage);
            sheet.change(trigger, BAR, bar);
            giveDeed(trigger, REFUSE, 0, 0, 0);
            return trigger;
        }

        void giveDeed(int trigger, int deed, int target, int shift, int number) {
            sheet.change(trigger, DEED, deed);
            sheet.change(trigger, TARGET, target);
            sheet.change(trigger, SHIFT, shift);
            sheet.change(trigger, NUMBER, number);
        }

        void remove(int trigger) {
            sheet.remove(trigger);
        }

        /** Returns the triggers that the statement of a trigger's deed could set off, as a set. */
        int followers(int trigger) {
            int table = sheet.get(trigger, TARGET);
            // No statement has the kind that this makes of REFUSE.
            int kind = sheet.get(trigger, DEED) - FIRST_DEED_OF_A_STATEMENT;
            int set = 0;
            for (int other = 0; other < sheet.size(); other++) {
                if (sheet.get(other, TABLE) == table && sheet.get(other, KIND) == kind) {
                    set |= 1 << other;
                }
            }
            return set;
        }

        boolean couldSetOffItself(int trigger) {
            int reached = followers(trigger);
            // The shortest way back to a trigger passes each of the others once at most.
            for (int step = 1; step < TRIGGERS; step++) {
                reached |= followersOfAll(reached);
            }
            return isIn(reached, trigger);
        }

        int thoseThatCouldSetOffThemselves() {
            int set = 0;
            for (int trigger = 0; trigger < sheet.size(); trigger++) {
                if (couldSetOffItself(trigger)) {
                    set |= 1 << trigger;
                }
            }
            return set;
        }

        private int followersOfAll(int set) {
            int reached = 0;
            for (int trigger = 0; trigger < sheet.size(); trigger++) {
                if (isIn(set, trigger)) {
                    reached |= followers(trigger);
                }
            }
            return reached;
        }

        private static boolean isIn(int set, int trigger) {
            return (set >> trigger & 1) == 1;
        }
    }

    /** What failed first in a course, why, and the chain of triggers that is to blame. */
    static final class Failure {
        int reason = 0;
        int table = NONE;
        int key = NONE;
        int blamed = 0;

        // A statement that is cut has the depth 9 at most, and a chain as long.
        private final int[] chain = new int[DEPTHS];

        void clear() {
            reason = 0;
            table = NONE;
            key = NONE;
            blamed = 0;
        }

        boolean isThere() {
            return reason != 0;
        }

        int blamedAt(int place) {
            return isWithin(place, blamed) && place < DEPTHS ? chain[place] : NONE;
        }

        /**
         * Tells what failed, and blames the chain of its cause (NOWHERE: from outside) and a trigger that this set off.
         * It is always false, so that what fails can return it.
         */
        boolean tell(int reason, int table, int key, Sheet begun, int cause, int trigger) {
            this.reason = reason;
            this.table = table;
            this.key = key;
            blamed = cause == NOWHERE ? 0 : Math.min(begun.get(cause, Course.DEPTH) + 1, DEPTHS);
            int from = cause;
            int link = trigger;
            for (int at = blamed - 1; at >= 0; at--) {
                chain[at] = link;
                link = begun.get(from, Course.MAKER);
                from = begun.get(from, Course.CAUSE);
            }
            return false;
        }
    }

    /** A statement from outside, carried out with all that it sets off, on tables of the course's own. */
    static final class Course {
        // The columns of a statement that was begun; the journal has all but the last one.
        static final int KIND = 0, TABLE = 1, KEY = 2, WEIGHT = 3, DEPTH = 4, MAKER = 5, CAUSE = 6;
        static final int JOURNAL_COLUMNS = 6;
        private static final int COLUMNS = 7;
        // The columns of a trigger that waits.
        private static final int TRIGGER = 0, SETTER = 1, WAITING_COLUMNS = 2;

        final Tables tables = new Tables();
        final Sheet journal = new Sheet(STATEMENTS, JOURNAL_COLUMNS);
        final Sheet begun = new Sheet(STATEMENTS, COLUMNS);
        final Failure failure = new Failure();
        int leftOut = 0;

        private final Sheet triggers = new Sheet(TRIGGERS, Triggers.COLUMNS);
        // Each turn of one that waits begins a statement or ends the course, so those behind have no turn.
        private final Sheet waiting = new Sheet(STATEMENTS, WAITING_COLUMNS);
        private boolean isLenient = false;
        private int depthLimit = 0;
        private int without = NOWHERE;
        private int inMotion = 0;

        /** Carries a statement out on a copy of a state, with a DEPTH, and without a trigger (NOWHERE: with all). */
        void run(State state, int kind, int table, int key, int number, int depthLimit, int without) {
            tables.copyFrom(state.tables);
            triggers.copyFrom(state.triggers.sheet);
            isLenient = state.lenient == 1;
            journal.clear();
            begun.clear();
            failure.clear();
            waiting.clear();
            leftOut = 0;
            inMotion = 0;
            this.depthLimit = depthLimit;
            this.without = without;
            boolean goesOn = carry(kind, table, key, number, 0, NOWHERE, NONE);
            for (int next = 0; goesOn && next < STATEMENTS && next < waiting.size(); next++) {
                int setter = waiting.get(next, SETTER);
                goesOn = doDeed(waiting.get(next, TRIGGER), setter, begun.get(setter, DEPTH) + 1);
            }
        }

        int greatestDepth() {
            int greatest = NONE;
            for (int statement = 0; statement < begun.size(); statement++) {
                greatest = Math.max(greatest, begun.get(statement, DEPTH));
            }
            return greatest;
        }

        /** Carries one statement out; false if it fails and is not left out. */
        private boolean carry(int kind, int table, int key, int number, int depth, int cause, int maker) {
            if (depth > depthLimit) {
                return failure.tell(CUT, table, key, begun, cause, maker);
            }
            if (begun.size() >= STATEMENTS) {
                return failure.tell(LONG, table, key, begun, cause, maker);
            }
            int weight = tables.weightOf(kind, table, key, number);
            int statement = begin(kind, table, key, weight, depth, cause, maker);
            int motion = 1 << table;
            if ((inMotion & motion) != 0) {
                return failure.tell(MOTION, table, key, begun, cause, maker);
            }
            if (weight == NOWHERE) {
                return isLeftOut(cause) || failure.tell(ROW, table, key, begun, cause, maker);
            }
            inMotion |= motion;
            boolean isThrough = doStage(AHEAD, statement, depth);
            if (isThrough) {
                tables.apply(kind, table, key, weight);
                noteDone(statement);
                isThrough = doStage(BEHIND, statement, depth);
            }
            if (isThrough) {
                queueLastStage(statement);
            }
            inMotion &= ~motion;
            return isThrough;
        }

        private int begin(int kind, int table, int key, int weight, int depth, int cause, int maker) {
            int statement = begun.append();
            begun.change(statement, KIND, kind);
            begun.change(statement, TABLE, table);
            begun.change(statement, KEY, key);
            begun.change(statement, WEIGHT, weight);
            begun.change(statement, DEPTH, depth);
            begun.change(statement, MAKER, maker);
            begun.change(statement, CAUSE, cause);
            return statement;
        }

        private void noteDone(int statement) {
            int place = journal.append();
            for (int column = 0; column < JOURNAL_COLUMNS; column++) {
                journal.change(place, column, begun.get(statement, column));
            }
        }

        /** Tells whether a statement that is not possible is left out, and counts it then. */
        private boolean isLeftOut(int cause) {
            if (cause == NOWHERE || !isLenient) {
                return false;
            }
            leftOut++;
            return true;
        }

        /** Does the deeds that a statement of this depth sets off in a stage; false if something fails. */
        private boolean doStage(int stage, int statement, int depth) {
            for (int trigger = 0; trigger < triggers.size(); trigger++) {
                if (isSetOff(trigger, stage, statement) && !doDeed(trigger, statement, depth + 1)) {
                    return false;
                }
            }
            return true;
        }

        private void queueLastStage(int statement) {
            for (int trigger = 0; trigger < triggers.size(); trigger++) {
                if (isSetOff(trigger, LAST, statement)) {
                    int place = waiting.append();
                    waiting.change(place, TRIGGER, trigger);
                    waiting.change(place, SETTER, statement);
                }
            }
        }

        private boolean isSetOff(int trigger, int stage, int statement) {
            return trigger != without
                    && triggers.get(trigger, Triggers.STAGE) == stage
                    && triggers.get(trigger, Triggers.TABLE) == begun.get(statement, TABLE)
                    && triggers.get(trigger, Triggers.KIND) == begun.get(statement, KIND)
                    && triggers.get(trigger, Triggers.BAR) <= begun.get(statement, WEIGHT);
        }

        /** Does the deed, its statement at this depth, of a trigger that a setter set off; false if it fails. */
        private boolean doDeed(int trigger, int setter, int depth) {
            int deed = triggers.get(trigger, Triggers.DEED);
            int keyOfSetter = begun.get(setter, KEY);
            if (deed == REFUSE) {
                return failure.tell(REFUSED, begun.get(setter, TABLE), keyOfSetter, begun, setter, trigger);
            }
            int key = (keyOfSetter + triggers.get(trigger, Triggers.SHIFT)) % KEYS;
            return carry(deed - FIRST_DEED_OF_A_STATEMENT, triggers.get(trigger, Triggers.TARGET), key,
                    triggers.get(trigger, Triggers.NUMBER), depth, setter, trigger);
        }
    }

    /** The text, and the statements that were read from it. */
    static final class Pad {
        // The columns of a statement that was read.
        static final int KIND = 0, TABLE = 1, KEY = 2, NUMBER = 3;
        private static final int COLUMNS = 4;
        // The shortest statement and its semicolon have five signs.
        private static final int MOST = SIGNS / 5 + 1;
        private static final int SIGNS_OF_A_LONG = 8;

        private final char[] signs = new char[SIGNS];
        private final Sheet parsed = new Sheet(MOST, COLUMNS);
        private int length = 0;
        private int at = 0;

        int length() {
            return length;
        }

        void clear() {
            length = 0;
        }

        /** Returns how many characters a number stands for, 0 if it does not stand for characters. */
        static int signsIn(long characters) {
            long rest = characters;
            int found = 0;
            while (found < SIGNS_OF_A_LONG && rest != 0) {
                int code = (int) (rest & 255);
                if (code < 33 || code > 126) {
                    return 0;
                }
                rest >>>= 8;
                found++;
            }
            return found;
        }

        /** Appends the lowest characters of a number. */
        void append(long characters, int added) {
            for (int place = added - 1; place >= 0 && length < SIGNS; place--) {
                signs[length] = (char) (characters >>> (8 * place) & 255);
                length++;
            }
        }

        int statements() {
            return parsed.size();
        }

        int get(int statement, int column) {
            return parsed.get(statement, column);
        }

        /** Reads the text from left to right, and returns its fault, NONE if there is none. */
        int read() {
            at = 0;
            parsed.clear();
            for (int turn = 0; turn < MOST; turn++) {
                if (!readStatement()) {
                    return at;
                }
                if (at >= length) {
                    return NONE;
                }
                if (!accepts(';')) {
                    return at;
                }
            }
            return at;
        }

        /** Reads a statement; false if its next character is at fault. */
        private boolean readStatement() {
            int kind = readKind();
            if (kind == NOWHERE) {
                return false;
            }
            int table = readNumber(TABLES);
            if (table == NOWHERE || !accepts('.')) {
                return false;
            }
            int key = readNumber(KEYS);
            if (key == NOWHERE) {
                return false;
            }
            int number = 0;
            if (kind != DROP) {
                number = accepts(kind == LAY ? '=' : '+') ? readNumber(NUMBERS) : NOWHERE;
            }
            if (number == NOWHERE) {
                return false;
            }
            keep(kind, table, key, number);
            return true;
        }

        private int readKind() {
            if (accepts('l')) {
                return LAY;
            }
            if (accepts('a')) {
                return ADD;
            }
            return accepts('d') ? DROP : NOWHERE;
        }

        /** Reads as many digits as a number below the limit can have; NOWHERE if there is none. */
        private int readNumber(int limit) {
            int number = digit();
            if (!isWithin(number, limit)) {
                return NOWHERE;
            }
            at++;
            while (at < length && number != 0 && digit() != NOWHERE && number * 10 + digit() < limit) {
                number = number * 10 + digit();
                at++;
            }
            return number;
        }

        private int digit() {
            char sign = next();
            return sign >= '0' && sign <= '9' ? sign - '0' : NOWHERE;
        }

        /** Goes past the next character if it is this one. */
        private boolean accepts(char sign) {
            if (next() != sign) {
                return false;
            }
            at++;
            return true;
        }

        /** Returns the next character, a space (which no text has) at the end. */
        private char next() {
            return at < length && isWithin(at, SIGNS) ? signs[at] : ' ';
        }

        private void keep(int kind, int table, int key, int number) {
            int statement = parsed.append();
            parsed.change(statement, KIND, kind);
            parsed.change(statement, TABLE, table);
            parsed.change(statement, KEY, key);
            parsed.change(statement, NUMBER, number);
        }
    }
}
