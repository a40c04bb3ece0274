/** Each promise of the document by itself: ordinary inputs, the edges that it names, and wrong inputs. */
public final class PromisesTest extends Checks {
    public static void main(String[] args) {
        newObject();
        set();
        trigger();
        deed();
        dropTrigger();
        stateOfRows();
        stateWithDeeds();
        stages();
        waiting();
        tried();
        triedChains();
        triedLimits();
        lenient();
        row();
        value();
        ofTrigger();
        ofTriggerFollowers();
        journal();
        count();
        culprits();
        leastDepth();
        put();
        wipe();
        fault();
        carryOut();
        undo();
        save();
        restore();
        end("all promises stand");
    }

    private static void newObject() {
        TriggerStages x = new TriggerStages();
        for (int what = 0; what < 12; what++) {
            due("1: count(" + what + ") of a new object", x.count(what), what == 7 ? 4 : 0);
        }
        due("1: journal", x.journal(0, 0), NO_SUCH);
        due("1: undo", x.undo(), NOT_POSSIBLE);
        due("1: restore", x.restore(0), NOT_POSSIBLE);
        due("1: fault", x.fault(), 0);
    }

    private static void set() {
        TriggerStages x = new TriggerStages();
        due("2: DEPTH", x.set(0, 8), 4);
        due("2: DEPTH again", x.set(0, 0), 8);
        due("2: LENIENT", x.set(1, 1), 0);
        due("2: LENIENT again", x.set(1, 0), 1);
        due("2: the same value", x.set(1, 0), 0);
        due("2: each is a change", x.count(11), 5);
        due("2: DEPTH 9", x.set(0, 9), BAD_VALUE);
        due("2: DEPTH -1", x.set(0, -1), BAD_VALUE);
        due("2: LENIENT 2", x.set(1, 2), BAD_VALUE);
        due("2: LENIENT -1", x.set(1, -1), BAD_VALUE);
        due("2: setting -1", x.set(-1, 0), BAD_VALUE);
        due("2: setting 2", x.set(2, 0), BAD_VALUE);
        due("2: an error is no change", x.count(11), 5);
        due("2: DEPTH stayed", x.count(7), 0);
    }

    private static void trigger() {
        TriggerStages x = new TriggerStages();
        due("3: table -1", x.trigger(-1, 0, 0, 0), NO_SUCH);
        due("3: table 4, wrong kind, too", x.trigger(4, 3, 3, 1000), NO_SUCH);
        due("3: kind -1", x.trigger(0, -1, 0, 0), BAD_VALUE);
        due("3: kind 3", x.trigger(0, 3, 0, 0), BAD_VALUE);
        due("3: stage -1", x.trigger(0, 0, -1, 0), BAD_VALUE);
        due("3: stage 3", x.trigger(0, 0, 3, 0), BAD_VALUE);
        due("3: bar -1", x.trigger(0, 0, 0, -1), BAD_VALUE);
        due("3: bar 1000", x.trigger(0, 0, 0, 1000), BAD_VALUE);
        due("3: errors make none", x.count(4) + x.count(11), 0);
        for (int number = 0; number < 12; number++) {
            due("3: trigger " + number, x.trigger(3, 2, 2, 999), number);
        }
        due("3: a 13th", x.trigger(3, 2, 2, 999), TOO_MANY);
        due("3: a 13th of a wrong kind", x.trigger(3, 3, 2, 999), BAD_VALUE);
        due("3: a 13th of no table", x.trigger(4, 0, 2, 999), NO_SUCH);
        int[] first = {3, 2, 2, 999, REFUSE, 0, 0, 0};
        for (int what = 0; what < 8; what++) {
            due("3: ofTrigger(11, " + what + ")", x.ofTrigger(11, what), first[what]);
        }
    }

    private static void deed() {
        TriggerStages x = new TriggerStages();
        due("4: no trigger", x.deed(0, 0, 0, 0, 0), NO_SUCH);
        x.trigger(1, 1, 1, 1);
        due("4: trigger -1", x.deed(-1, 0, 0, 0, 0), NO_SUCH);
        due("4: trigger 1", x.deed(1, 0, 0, 0, 0), NO_SUCH);
        due("4: target -1, wrong deed, too", x.deed(0, 4, -1, 100, 0), NO_SUCH);
        due("4: target 4", x.deed(0, 0, 4, 0, 0), NO_SUCH);
        due("4: deed -1", x.deed(0, -1, 0, 0, 0), BAD_VALUE);
        due("4: deed 4", x.deed(0, 4, 0, 0, 0), BAD_VALUE);
        due("4: shift -1", x.deed(0, 0, 0, -1, 0), BAD_VALUE);
        due("4: shift 100", x.deed(0, 0, 0, 100, 0), BAD_VALUE);
        due("4: number -1", x.deed(0, 0, 0, 0, -1), BAD_VALUE);
        due("4: number 1000", x.deed(0, 0, 0, 0, 1000), BAD_VALUE);
        due("4: errors are no changes", x.count(11), 1);
        due("4: DROP", x.deed(0, DO_DROP, 3, 99, 999), REFUSE);
        due("4: ADD", x.deed(0, DO_ADD, 2, 98, 998), DO_DROP);
        due("4: the deed", x.ofTrigger(0, 4), DO_ADD);
        due("4: the target", x.ofTrigger(0, 5), 2);
        due("4: the shift", x.ofTrigger(0, 6), 98);
        due("4: the number", x.ofTrigger(0, 7), 998);
        due("4: the table stays", x.ofTrigger(0, 0), 1);
        due("4: REFUSE keeps what it is given", x.deed(0, REFUSE, 1, 2, 3), DO_ADD);
        due("4: its target", x.ofTrigger(0, 5), 1);
        due("4: changes", x.count(11), 4);
    }

    private static void dropTrigger() {
        TriggerStages x = new TriggerStages();
        due("5: none", x.dropTrigger(0), NO_SUCH);
        for (int bar = 0; bar < 12; bar++) {
            x.trigger(bar % 4, 0, 0, bar);
        }
        due("5: -1", x.dropTrigger(-1), NO_SUCH);
        due("5: 12", x.dropTrigger(12), NO_SUCH);
        due("5: the second", x.dropTrigger(1), 11);
        due("5: the first stays", x.ofTrigger(0, 3), 0);
        due("5: those behind it move up", x.ofTrigger(1, 3), 2);
        due("5: the last one", x.ofTrigger(10, 3), 11);
        due("5: dropped", x.ofTrigger(11, 3), NO_SUCH);
        x.deed(10, DO_LAY, 1, 2, 3);
        due("5: drop the last", x.dropTrigger(10), 10);
        x.trigger(0, 0, 0, 7);
        due("5: nothing of the dropped one's deed", x.ofTrigger(10, 4) + x.ofTrigger(10, 5) + x.ofTrigger(10, 6)
                + x.ofTrigger(10, 7), 0);
        due("5: drop the new one", x.dropTrigger(10), 10);
        due("5: drop the first", x.dropTrigger(0), 9);
        due("5: the first is another", x.ofTrigger(0, 3), 2);
        due("5: a new one refuses", x.trigger(0, 0, 0, 5), 9);
        due("5: its deed", x.ofTrigger(9, 4), REFUSE);
        x.undo();
        due("5: undo of two changes", x.undo(), 4);
        due("5: the first is back", x.ofTrigger(0, 3), 0);
    }

    private static void stateOfRows() {
        TriggerStages x = new TriggerStages();
        due("6: table -1, wrong kind, too", x.state(3, -1, 0, 0), NO_SUCH);
        due("6: table 4", x.state(0, 4, 100, 0), NO_SUCH);
        due("6: kind -1", x.state(-1, 0, 0, 0), BAD_VALUE);
        due("6: kind 3", x.state(3, 0, 0, 0), BAD_VALUE);
        due("6: key -1", x.state(0, 0, -1, 0), BAD_VALUE);
        due("6: key 100", x.state(0, 0, 100, 0), BAD_VALUE);
        due("6: number -1", x.state(0, 0, 0, -1), BAD_VALUE);
        due("6: number 1000, of a DROP, too", x.state(2, 0, 0, 1000), BAD_VALUE);
        due("6: ADD without a row", x.state(ADD, 0, 5, 0), NOT_POSSIBLE);
        due("6: DROP without a row", x.state(DROP, 0, 5, 0), NOT_POSSIBLE);
        due("6: errors are no changes", x.count(11), 0);
        due("6: LAY", x.state(LAY, 0, 5, 990), 1);
        due("6: LAY of a key that is there", x.state(LAY, 0, 5, 1), NOT_POSSIBLE);
        due("6: the same key in another table", x.state(LAY, 1, 5, 1), 1);
        due("6: ADD up to 999", x.state(ADD, 0, 5, 9), 1);
        due("6: ADD above it", x.state(ADD, 0, 5, 1), NOT_POSSIBLE);
        due("6: the sum", x.value(0, 5), 999);
        due("6: DROP, its number does not matter", x.state(DROP, 0, 5, 7), 1);
        due("6: dropped", x.value(0, 5), NONE);
        for (int key = 0; key < 12; key++) {
            due("6: LAY of row " + key, x.state(LAY, 3, 99 - key, key), 1);
        }
        due("6: a 13th row", x.state(LAY, 3, 0, 0), NOT_POSSIBLE);
        due("6: ADD in a full table", x.state(ADD, 3, 99, 1), 1);
        due("6: DROP in a full table", x.state(DROP, 3, 93, 0), 1);
        due("6: then there is room", x.state(LAY, 3, 0, 0), 1);
        due("6: the other table", x.count(1), 1);
    }

    private static void stateWithDeeds() {
        TriggerStages x = new TriggerStages();
        make(x, 0, ADD, BEHIND, 10, DO_LAY, 1, 95, 7);
        x.state(LAY, 0, 8, 3);
        due("6: a LAY does not set off a trigger of ADD", x.count(1), 0);
        due("6: weight 9 is below the bar", x.state(ADD, 0, 8, 6), 1);
        due("6: weight 10 is not", x.state(ADD, 0, 8, 1), 2);
        due("6: the key, and the shift, left over by 100", x.value(1, 3), 7);
        due("6: fails with its deed", x.state(ADD, 0, 8, 1), NOT_POSSIBLE);
        due("6: nothing of it remains", x.value(0, 8), 10);
        due("6: the journal stays", x.count(5), 2);
        make(x, 2, DROP, AHEAD, 5, DO_ADD, 1, 0, 1);
        x.state(LAY, 2, 3, 4);
        due("6: a DROP weighs what the row has", x.state(DROP, 2, 3, 999), 1);
        x.state(LAY, 2, 3, 5);
        due("6: a DROP at the bar", x.state(DROP, 2, 3, 0), 2);
        due("6: the deed was done", x.value(1, 3), 8);
        due("6: another table sets nothing off", x.state(LAY, 3, 3, 5) + x.state(DROP, 3, 3, 0), 2);
    }

    private static void stages() {
        TriggerStages x = new TriggerStages();
        make(x, 0, LAY, BEHIND, 0, DO_ADD, 1, 0, 1);
        make(x, 0, LAY, AHEAD, 0, DO_LAY, 1, 0, 10);
        make(x, 0, LAY, LAST, 0, DO_DROP, 1, 0, 0);
        make(x, 0, LAY, BEHIND, 0, DO_ADD, 1, 0, 100);
        due("6: AHEAD, BEHIND, LAST", x.state(LAY, 0, 4, 1), 5);
        int[][] done = {{LAY, 1, 4, 10, 1, 1}, {LAY, 0, 4, 1, 0, NONE}, {ADD, 1, 4, 11, 1, 0}, {ADD, 1, 4, 111, 1, 3},
            {DROP, 1, 4, 111, 1, 2}};
        dueJournal("6: stages", x, done);
        TriggerStages y = new TriggerStages();
        make(y, 0, LAY, AHEAD, 0, DO_ADD, 0, 0, 1);
        due("6: a table in motion AHEAD", y.tried(LAY, 0, 4, 1, 0), MOTION);
        y.deed(0, DO_LAY, 1, 0, 1);
        due("6: another table is not in motion", y.state(LAY, 0, 4, 1), 2);
    }

    private static void waiting() {
        TriggerStages x = new TriggerStages();
        make(x, 0, LAY, LAST, 0, DO_LAY, 2, 0, 1);
        make(x, 0, LAY, BEHIND, 0, DO_LAY, 1, 0, 1);
        make(x, 1, LAY, LAST, 0, DO_LAY, 3, 0, 1);
        make(x, 0, LAY, LAST, 1, DO_DROP, 3, 0, 0);
        make(x, 3, LAY, LAST, 0, DO_ADD, 2, 0, 5);
        // What its deed BEHIND puts to wait stands ahead of its own; what is put to wait while others do, behind all.
        int[][] done = {{LAY, 0, 4, 1, 0, NONE}, {LAY, 1, 4, 1, 1, 1}, {LAY, 3, 4, 1, 2, 2}, {LAY, 2, 4, 1, 1, 0},
            {DROP, 3, 4, 1, 1, 3}, {ADD, 2, 4, 6, 3, 4}};
        due("6: those that wait", x.state(LAY, 0, 4, 1), 6);
        dueJournal("6: waiting", x, done);
        TriggerStages z = new TriggerStages();
        make(z, 0, LAY, LAST, 5, REFUSE, 0, 0, 0);
        due("6: a REFUSE at the end", z.state(LAY, 0, 4, 5), NOT_POSSIBLE);
        due("6: nothing of it remains", z.count(0), 0);
        due("6: it is refused", z.tried(LAY, 0, 4, 5, 0), REFUSED);
        due("6: below the bar", z.state(LAY, 0, 4, 4), 1);
    }

    private static void tried() {
        TriggerStages x = new TriggerStages();
        due("7: table 4, wrong what, too", x.tried(0, 4, 0, 0, 21), NO_SUCH);
        due("7: table -1", x.tried(0, -1, 0, 0, 0), NO_SUCH);
        due("7: kind 3", x.tried(3, 0, 0, 0, 0), BAD_VALUE);
        due("7: key 100", x.tried(0, 0, 100, 0, 0), BAD_VALUE);
        due("7: number 1000", x.tried(0, 0, 0, 1000, 0), BAD_VALUE);
        due("7: what -1", x.tried(0, 0, 0, 0, -1), BAD_VALUE);
        due("7: what 21", x.tried(0, 0, 0, 0, 21), BAD_VALUE);
        dueTried("7: alone", x, new int[] {LAY, 0, 5, 1}, 0, 1, 1, 0, 0, NONE, NONE, 0);
        due("7: nothing changes", x.count(0) + x.count(5) + x.count(11), 0);
        dueTried("7: ROW", x, new int[] {DROP, 3, 5, 1}, ROW, 0, 1, 0, 0, 3, 5, 0);
        make(x, 0, LAY, AHEAD, 0, DO_LAY, 1, 1, 1);
        make(x, 1, LAY, BEHIND, 0, DO_LAY, 2, 1, 1);
        dueTried("7: with deeds", x, new int[] {LAY, 0, 99, 1}, 0, 3, 3, 0, 2, NONE, NONE, 0);
        x.set(0, 1);
        dueTried("7: CUT", x, new int[] {LAY, 0, 99, 1}, CUT, 0, 2, 0, 1, 2, 1, 2, 0, 1);
        x.set(0, 0);
        dueTried("7: CUT at 0", x, new int[] {LAY, 0, 99, 1}, CUT, 0, 1, 0, 0, 1, 0, 1, 0);
    }

    private static void triedChains() {
        TriggerStages x = new TriggerStages();
        make(x, 0, LAY, BEHIND, 0, DO_LAY, 1, 1, 1);
        make(x, 1, LAY, BEHIND, 0, DO_LAY, 2, 1, 1);
        make(x, 2, LAY, AHEAD, 0, DO_LAY, 0, 1, 1);
        dueTried("7: MOTION", x, new int[] {LAY, 0, 1, 1}, MOTION, 0, 4, 0, 3, 0, 4, 3, 0, 1, 2);
        x.deed(2, REFUSE, 3, 50, 0);
        dueTried("7: REFUSED", x, new int[] {LAY, 0, 1, 1}, REFUSED, 0, 3, 0, 2, 2, 3, 3, 0, 1, 2);
        x.deed(2, DO_LAY, 3, 50, 0);
        x.state(LAY, 3, 53, 0);
        dueTried("7: ROW of a deed", x, new int[] {LAY, 0, 1, 1}, ROW, 0, 4, 0, 3, 3, 53, 3, 0, 1, 2);
        x.dropTrigger(1);
        dueTried("7: without one", x, new int[] {LAY, 0, 1, 1}, 0, 2, 2, 0, 1, NONE, NONE, 0);
        due("7: no chain of what goes", x.tried(LAY, 0, 1, 1, 20), NONE);
        TriggerStages y = new TriggerStages();
        make(y, 0, LAY, LAST, 0, DO_LAY, 1, 1, 1);
        make(y, 1, LAY, LAST, 0, DO_LAY, 0, 1, 0);
        y.trigger(0, LAY, LAST, 0);
        dueTried("7: what waits first fails first", y, new int[] {LAY, 0, 98, 1}, REFUSED, 0, 2, 0, 1, 0, 98, 1, 2);
        y.dropTrigger(2);
        y.set(0, 8);
        dueTried("7: round and round", y, new int[] {LAY, 0, 98, 1},
                CUT, 0, 9, 0, 8, 1, 7, 9, 0, 1, 0, 1, 0, 1, 0, 1, 0);
    }

    private static void triedLimits() {
        TriggerStages x = new TriggerStages();
        x.set(0, 8);
        x.set(1, 1);
        x.state(LAY, 0, 1, 0);
        // Two triggers that each set off both: 1 and 2 and 4 and .. statements.
        make(x, 0, ADD, LAST, 0, DO_ADD, 0, 0, 0);
        make(x, 0, ADD, LAST, 0, DO_ADD, 0, 0, 0);
        dueTried("7: LONG", x, new int[] {ADD, 0, 1, 0}, LONG, 0, 100, 0, 6, 0, 1, 6, 1, 0, 0, 1, 0, 1);
        // What cannot be done is begun, too.
        x.deed(1, DO_ADD, 0, 50, 0);
        dueTried("7: left out", x, new int[] {ADD, 0, 1, 0}, CUT, 0, 17, 8, 8, 0, 1, 9, 0, 0, 0, 0, 0, 0, 0, 0, 0);
        x.dropTrigger(1);
        x.dropTrigger(0);
        make(x, 0, ADD, LAST, 1, DO_ADD, 1, 0, 0);
        x.state(LAY, 1, 1, 9);
        for (int i = 0; i < 10; i++) {
            make(x, 1, ADD, LAST, 0, DO_ADD, 2, 0, 0);
        }
        x.state(LAY, 2, 1, 9);
        make(x, 2, ADD, LAST, 0, DO_LAY, 3, 0, 0);
        due("7: 22 go", x.tried(ADD, 0, 1, 1, 2), 22);
        due("7: only the first is laid", x.tried(ADD, 0, 1, 1, 3), 9);
        due("7: done", x.tried(ADD, 0, 1, 1, 1), 13);
    }

    private static void lenient() {
        TriggerStages x = new TriggerStages();
        make(x, 0, LAY, AHEAD, 0, DO_DROP, 1, 0, 0);
        make(x, 0, LAY, BEHIND, 0, DO_LAY, 2, 0, 0);
        make(x, 0, LAY, LAST, 0, DO_ADD, 1, 0, 0);
        due("6: ROW of a deed", x.state(LAY, 0, 1, 0), NOT_POSSIBLE);
        x.set(1, 1);
        dueTried("7: two are left out", x, new int[] {LAY, 0, 1, 0}, 0, 2, 4, 2, 1, NONE, NONE, 0);
        due("6: they are left out", x.state(LAY, 0, 1, 0), 2);
        due("6: the deeds go on behind it", x.value(2, 1), 0);
        due("6: ROW from outside", x.state(LAY, 0, 1, 0), NOT_POSSIBLE);
        dueTried("7: ROW from outside", x, new int[] {LAY, 0, 1, 0}, ROW, 0, 1, 0, 0, 0, 1, 0);
        make(x, 0, LAY, BEHIND, 5, DO_LAY, 0, 50, 0);
        dueTried("7: MOTION", x, new int[] {LAY, 0, 2, 5}, MOTION, 0, 4, 1, 1, 0, 52, 1, 3);
        x.deed(3, REFUSE, 0, 0, 0);
        dueTried("7: REFUSED", x, new int[] {LAY, 0, 2, 5}, REFUSED, 0, 3, 1, 1, 0, 2, 1, 3);
        x.set(0, 0);
        dueTried("7: CUT", x, new int[] {LAY, 0, 2, 0}, CUT, 0, 1, 0, 0, 1, 2, 1, 0);
        TriggerStages y = new TriggerStages();
        y.set(1, 1);
        make(y, 0, LAY, AHEAD, 0, DO_DROP, 1, 0, 0);
        make(y, 0, LAY, AHEAD, 0, DO_LAY, 1, 0, 0);
        due("6: a table is not in motion behind what is left out", y.state(LAY, 0, 1, 0), 2);
    }

    private static void row() {
        TriggerStages x = new TriggerStages();
        int[] keys = {50, 10, 99, 0, 30};
        for (int key : keys) {
            x.state(LAY, 2, key, key + 1);
        }
        int[] sorted = {0, 10, 30, 50, 99};
        for (int place = 0; place < 5; place++) {
            due("8: key " + place, x.row(2, place, 0), sorted[place]);
            due("8: number " + place, x.row(2, place, 1), sorted[place] + 1);
        }
        due("8: table 4, wrong what, too", x.row(4, 0, 2), NO_SUCH);
        due("8: table -1", x.row(-1, 0, 0), NO_SUCH);
        due("8: place 5, wrong what, too", x.row(2, 5, 2), NO_SUCH);
        due("8: place -1", x.row(2, -1, 0), NO_SUCH);
        due("8: another table", x.row(1, 0, 0), NO_SUCH);
        due("8: what 2", x.row(2, 0, 2), BAD_VALUE);
        due("8: what -1", x.row(2, 0, -1), BAD_VALUE);
        x.state(DROP, 2, 10, 0);
        due("8: behind a DROP", x.row(2, 1, 0), 30);
        due("8: its number", x.row(2, 1, 1), 31);
        due("8: one less", x.row(2, 4, 0), NO_SUCH);
    }

    private static void value() {
        TriggerStages x = new TriggerStages();
        x.state(LAY, 3, 99, 999);
        x.state(LAY, 0, 0, 0);
        due("9: 999", x.value(3, 99), 999);
        due("9: 0", x.value(0, 0), 0);
        due("9: none", x.value(0, 99), NONE);
        due("9: table 4, wrong key, too", x.value(4, 100), NO_SUCH);
        due("9: table -1", x.value(-1, 0), NO_SUCH);
        due("9: key 100", x.value(0, 100), BAD_VALUE);
        due("9: key -1", x.value(0, -1), BAD_VALUE);
    }

    private static void ofTrigger() {
        TriggerStages x = new TriggerStages();
        due("10: none, wrong what, too", x.ofTrigger(0, 10), NO_SUCH);
        make(x, 3, DROP, LAST, 999, DO_DROP, 2, 99, 998);
        int[] all = {3, DROP, LAST, 999, DO_DROP, 2, 99, 998, 0, 0};
        for (int what = 0; what < 10; what++) {
            due("10: what " + what, x.ofTrigger(0, what), all[what]);
        }
        due("10: what 10", x.ofTrigger(0, 10), BAD_VALUE);
        due("10: what -1", x.ofTrigger(0, -1), BAD_VALUE);
        due("10: trigger 1", x.ofTrigger(1, 0), NO_SUCH);
        due("10: trigger -1", x.ofTrigger(-1, 0), NO_SUCH);
    }

    private static void ofTriggerFollowers() {
        TriggerStages x = new TriggerStages();
        make(x, 0, LAY, AHEAD, 0, DO_ADD, 1, 0, 0);
        make(x, 1, ADD, LAST, 999, DO_DROP, 2, 0, 0);
        make(x, 2, DROP, BEHIND, 0, DO_LAY, 3, 0, 0);
        make(x, 1, ADD, BEHIND, 0, DO_ADD, 1, 0, 0);
        make(x, 1, LAY, BEHIND, 0, REFUSE, 0, 0, 0);
        int[] followers = {1 << 1 | 1 << 3, 1 << 2, 0, 1 << 1 | 1 << 3, 0};
        int[] itself = {0, 0, 0, 1, 0};
        for (int trigger = 0; trigger < 5; trigger++) {
            due("10: followers of " + trigger, x.ofTrigger(trigger, 8), followers[trigger]);
            due("10: itself " + trigger, x.ofTrigger(trigger, 9), itself[trigger]);
        }
        due("12: those that could set off themselves", x.count(9), 1 << 3);
        x.deed(2, DO_LAY, 0, 0, 0);
        due("10: by others between", x.ofTrigger(0, 9) + x.ofTrigger(1, 9) + x.ofTrigger(2, 9), 3);
        due("12: all but the one that refuses", x.count(9), 15);
        // The longest way round: twelve triggers, each setting off just the next one.
        TriggerStages y = new TriggerStages();
        for (int i = 0; i < 12; i++) {
            int next = (i + 1) % 12;
            make(y, i % 4, i / 4, BEHIND, 0, next / 4 + 1, next % 4, 0, 0);
        }
        due("10: only the next one", y.ofTrigger(11, 8), 1);
        due("10: by eleven between", y.ofTrigger(0, 9), 1);
        due("12: all twelve", y.count(9), 4095);
        y.deed(11, REFUSE, 0, 0, 0);
        due("12: none behind a break", y.count(9), 0);
        due("10: a REFUSE sets nothing off", y.ofTrigger(11, 8), 0);
    }

    private static void journal() {
        TriggerStages x = new TriggerStages();
        due("11: none, wrong what, too", x.journal(0, 6), NO_SUCH);
        make(x, 1, ADD, BEHIND, 0, DO_DROP, 2, 3, 77);
        x.state(LAY, 1, 98, 5);
        x.state(LAY, 2, 1, 8);
        x.state(ADD, 1, 98, 6);
        int[][] done = {{ADD, 1, 98, 11, 0, NONE}, {DROP, 2, 1, 8, 1, 0}};
        dueJournal("11", x, done);
        due("11: -1", x.journal(-1, 0), NO_SUCH);
        due("11: what 6", x.journal(0, 6), BAD_VALUE);
        due("11: what -1", x.journal(0, -1), BAD_VALUE);
        x.state(ADD, 1, 98, 6);
        dueJournal("11: one that failed leaves it", x, done);
        x.trigger(0, 0, 0, 0);
        x.dropTrigger(0);
        dueJournal("11: by its number then", x, done);
        x.state(LAY, 0, 1, 1);
        due("11: the one that refuses leaves it", x.count(5), 2);
        x.state(DROP, 1, 98, 6);
        dueJournal("11: the latest", x, new int[][] {{DROP, 1, 98, 11, 0, NONE}});
        x.undo();
        dueJournal("11: undone", x, done);
    }

    private static void count() {
        TriggerStages x = new TriggerStages();
        for (int table = 0; table < 4; table++) {
            for (int key = 0; key <= table; key++) {
                x.state(LAY, table, key, 100 * table + key + 1);
            }
        }
        make(x, 0, DROP, BEHIND, 0, DO_DROP, 0, 0, 0);
        x.set(0, 7);
        x.set(1, 1);
        x.put('l');
        int[] all = {1, 2, 3, 4, 1, 1, 1 + 203 + 606 + 1210, 7, 1, 1, 1, 6};
        for (int what = 0; what < 12; what++) {
            due("12: count(" + what + ")", x.count(what), all[what]);
        }
        due("12: -1", x.count(-1), BAD_VALUE);
        due("12: 12", x.count(12), BAD_VALUE);
        due("12: far away", x.count(Integer.MIN_VALUE), BAD_VALUE);
    }

    private static void culprits() {
        TriggerStages x = new TriggerStages();
        due("13: table 4, wrong key, too", x.culprits(0, 4, 100, 0), NO_SUCH);
        due("13: table -1", x.culprits(0, -1, 0, 0), NO_SUCH);
        due("13: kind 3", x.culprits(3, 0, 0, 0), BAD_VALUE);
        due("13: key 100", x.culprits(0, 0, 100, 0), BAD_VALUE);
        due("13: number -1", x.culprits(0, 0, 0, -1), BAD_VALUE);
        due("13: it does not fail", x.culprits(LAY, 0, 0, 0), NONE);
        due("13: it fails without triggers", x.culprits(DROP, 0, 0, 0), 0);
        make(x, 3, LAY, AHEAD, 0, REFUSE, 0, 0, 0);
        make(x, 0, LAY, AHEAD, 0, DO_LAY, 1, 0, 0);
        make(x, 1, LAY, BEHIND, 0, DO_LAY, 2, 0, 0);
        make(x, 2, LAY, LAST, 0, REFUSE, 0, 0, 0);
        due("13: each of a chain", x.culprits(LAY, 0, 1, 1), 1 << 1 | 1 << 2 | 1 << 3);
        due("13: the first", x.culprits(LAY, 3, 1, 1), 1);
        make(x, 2, LAY, BEHIND, 0, REFUSE, 0, 0, 0);
        due("13: two that refuse", x.culprits(LAY, 0, 1, 1), 1 << 1 | 1 << 2);
        make(x, 0, LAY, AHEAD, 0, REFUSE, 0, 0, 0);
        due("13: none by itself", x.culprits(LAY, 0, 1, 1), 0);
        due("13: nothing changes", x.count(0) + x.count(5), 0);
        due("13: no trigger is dropped", x.count(4), 6);
    }

    private static void leastDepth() {
        TriggerStages x = new TriggerStages();
        due("14: table 4, wrong key, too", x.leastDepth(0, 4, 100, 0), NO_SUCH);
        due("14: table -1", x.leastDepth(0, -1, 0, 0), NO_SUCH);
        due("14: kind 3", x.leastDepth(3, 0, 0, 0), BAD_VALUE);
        due("14: key -1", x.leastDepth(0, 0, -1, 0), BAD_VALUE);
        due("14: number 1000", x.leastDepth(0, 0, 0, 1000), BAD_VALUE);
        due("14: 0", x.leastDepth(LAY, 0, 0, 0), 0);
        due("14: none", x.leastDepth(DROP, 0, 0, 0), NONE);
        for (int i = 0; i < 4; i++) {
            make(x, i, LAY, LAST, 100, DO_LAY, (i + 1) % 4, 1, i == 3 ? 99 : 100);
        }
        x.set(0, 0);
        due("14: four more", x.leastDepth(LAY, 0, 0, 100), 4);
        due("14: three more", x.leastDepth(LAY, 1, 0, 100), 3);
        due("14: below the bar", x.leastDepth(LAY, 1, 0, 99), 0);
        due("14: DEPTH stays", x.count(7), 0);
        x.deed(3, DO_LAY, 0, 1, 100);
        due("14: round and round", x.leastDepth(LAY, 0, 0, 100), NONE);
        for (int i = 0; i < 4; i++) {
            make(x, i, ADD, LAST, 0, DO_ADD, (i + 1) % 4, i == 3 ? 1 : 0, 0);
        }
        x.set(1, 1);
        for (int i = 0; i < 4; i++) {
            x.state(LAY, i, 1, 0);
            x.state(LAY, i, 2, 0);
        }
        due("14: eight, the last one left out", x.leastDepth(ADD, 0, 1, 0), 8);
        due("14: with DEPTH 8 it would go", x.set(0, 8) + x.state(ADD, 0, 1, 0), 8);
    }

    private static void put() {
        TriggerStages x = new TriggerStages();
        due("15: 0", x.put(0), BAD_VALUE);
        due("15: code 32", x.put(32), BAD_VALUE);
        due("15: code 127", x.put(127), BAD_VALUE);
        due("15: code 255", x.put(255), BAD_VALUE);
        due("15: code 32 above", x.put(0x2041L), BAD_VALUE);
        due("15: nothing below", x.put(0x4100L), BAD_VALUE);
        due("15: a gap", x.put(0x410041L), BAD_VALUE);
        due("15: a bit far above", x.put(0x0100000000000041L), BAD_VALUE);
        due("15: the highest bit", x.put(0x8141414141414141L), BAD_VALUE);
        due("15: -1", x.put(-1), BAD_VALUE);
        due("15: nothing was put", x.count(10), 0);
        due("15: code 33", x.put(33), 1);
        due("15: code 126", x.put(126), 2);
        due("15: eight", x.put(0x7E7E7E7E7E7E7E21L), 10);
        for (int i = 2; i <= 7; i++) {
            due("15: eight more", x.put(0x2122232425262728L), 8 * i + 2);
        }
        due("15: above 60", x.put(0x414141), TOO_MANY);
        due("15: a wrong code above 60", x.put(0x41412041L), BAD_VALUE);
        due("15: up to 60", x.put(0x4141), 60);
        due("15: above 60", x.put(0x41), TOO_MANY);
        due("15: is no change", x.count(11), 0);
        TriggerStages y = new TriggerStages();
        put(y, "l0.1=23");
        y.carryOut();
        due("15: the lowest 8 bits are the last character", y.value(0, 1), 23);
    }

    private static void wipe() {
        TriggerStages x = new TriggerStages();
        due("16: an empty one", x.wipe(), 0);
        put(x, "l0.1=23;");
        due("16: 8", x.wipe(), 8);
        due("16: empty", x.count(10), 0);
        put(x, "d0.1");
        due("16: nothing is left of it", x.fault(), NONE);
        due("16: 4", x.wipe(), 4);
        due("16: is no change", x.count(11), 0);
    }

    private static void fault() {
        String[] texts = {"", "l", "l0", "l0.", "l0.1", "l0.1=", "a0.1", "a0.1+", "d", "d3.", "d3.99;", "l0.0=0;a",
            "x", "L0.1=1", ";", "l4.1=1", "l-", "l00", "l0,1", "l0.=", "l0.01=1", "l0.100=1", "l0.99;", "l0.9+9",
            "a0.9=9", "d0.9=9", "d0.990", "l0.1=1000", "l0.1=00", "l0.1=01", "l0.1=9x", "a1.1+9990", "d0.1;;",
            "d0.1;x", "d0.1d", "l0.1=", "l0.1=;", "l0.1=+", "a3.00+1",
            "l.1=1", "0.1+5", "l0.109=1", "a1.1+1009", "d0.1;d0.1;d4.1", "+", "l0.1+", "a0.1=1"};
        int[] faults = {0, 1, 2, 3, 4, 5, 4, 5, 1, 3, 6, 8,
            0, 0, 0, 1, 1, 2, 2, 3, 4, 5, 5, 4,
            4, 4, 5, 8, 6, 6, 6, 8, 5,
            5, 4, 5, 5, 5, 4,
            1, 0, 5, 8, 11, 0, 4, 4};
        for (int i = 0; i < texts.length; i++) {
            TriggerStages x = new TriggerStages();
            put(x, texts[i]);
            due("17: fault of " + texts[i], x.fault(), faults[i]);
            due("18: carryOut of " + texts[i], x.carryOut(), BAD_TEXT);
            due("18: the pad stays", x.count(10), texts[i].length());
            due("18: no change", x.count(11), 0);
        }
        String[] right = {"l0.0=0", "l3.99=999", "a1.10+100", "d2.9", "d0.0;d0.0", "l1.1=1;a1.1+1;d1.1",
            "d0.0;d0.0;d0.0;d0.0;d0.0;d0.0;d0.0;d0.0;d0.0;d0.0;d0.0;d0.0"};
        for (String text : right) {
            TriggerStages x = new TriggerStages();
            put(x, text);
            due("17: no fault of " + text, x.fault(), NONE);
            due("17: nothing changes", x.count(10) + x.count(11), text.length());
        }
    }

    private static void carryOut() {
        TriggerStages x = new TriggerStages();
        put(x, "l1.99=999;l1.0=1;a1.0+20;l2.5=6;d1.99");
        due("18: five", x.carryOut(), 5);
        due("18: rows", x.count(1) * 10 + x.count(2), 11);
        due("18: a sum", x.value(1, 0), 21);
        due("18: the pad is empty", x.count(10), 0);
        due("18: one change", x.count(11), 1);
        dueJournal("18: the latest", x, new int[][] {{DROP, 1, 99, 999, 0, NONE}});
        put(x, "l3.1=1;l3.1=2;l3.2=3");
        due("18: up to the first one that fails", x.carryOut(), 1);
        due("18: none behind it", x.count(3), 1);
        due("18: the pad is empty then, too", x.count(10), 0);
        dueJournal("18: the one that did not fail", x, new int[][] {{LAY, 3, 1, 1, 0, NONE}});
        put(x, "d0.1;l0.1=1");
        due("18: none", x.carryOut(), 0);
        due("18: also then a change", x.count(11), 3);
        due("18: undo of none", x.undo(), 2);
        due("18: undo of one", x.undo(), 1);
        due("18: undone", x.count(3), 0);
        due("18: undo of all", x.undo(), 0);
        due("18: undone", x.count(6) + x.count(5), 0);
        make(x, 0, LAY, BEHIND, 5, DO_LAY, 1, 0, 1);
        put(x, "l0.1=4;l0.2=5;l0.3=6");
        due("18: each with its deeds", x.carryOut(), 3);
        due("18: they were done", x.count(1), 2);
        due("18: the latest with its deeds", x.count(5), 2);
        due("18: the empty pad", x.carryOut(), BAD_TEXT);
    }

    private static void undo() {
        TriggerStages x = new TriggerStages();
        due("19: none", x.undo(), NOT_POSSIBLE);
        x.set(0, 8);
        x.set(1, 1);
        x.trigger(3, 0, 0, 0);
        x.deed(0, DO_LAY, 1, 0, 0);
        x.state(LAY, 0, 1, 2);
        x.dropTrigger(0);
        due("19: six", x.count(11), 6);
        x.state(ADD, 0, 1, 3);
        due("19: at most six", x.count(11), 6);
        x.tried(LAY, 0, 5, 5, 0);
        x.save(1);
        put(x, "d0.1");
        due("19: those are no changes", x.count(11), 6);
        due("19: undo the ADD", x.undo(), 5);
        due("19: the number is back", x.value(0, 1), 2);
        due("19: the pad stays", x.count(10), 4);
        due("19: undo the drop", x.undo(), 4);
        due("19: the trigger is back", x.ofTrigger(0, 4), DO_LAY);
        due("19: undo the LAY", x.undo(), 3);
        due("19: the row is gone", x.count(0) + x.count(5), 0);
        due("19: undo the deed", x.undo(), 2);
        due("19: it refuses", x.ofTrigger(0, 4), REFUSE);
        due("19: undo the trigger", x.undo(), 1);
        due("19: it is gone", x.count(4), 0);
        due("19: undo LENIENT", x.undo(), 0);
        due("19: LENIENT", x.count(8), 0);
        due("19: the oldest was dropped", x.undo(), NOT_POSSIBLE);
        due("19: DEPTH stays", x.count(7), 8);
        due("19: the slot stays", x.restore(1), 1);
        due("19: a restore is a change", x.undo(), 0);
        due("19: the rows are gone again", x.count(0), 0);
    }

    private static void save() {
        TriggerStages x = new TriggerStages();
        due("20: slot -1", x.save(-1), BAD_VALUE);
        due("20: slot 2", x.save(2), BAD_VALUE);
        due("20: nothing in it", x.save(0), 0);
        x.state(LAY, 0, 1, 1);
        x.state(LAY, 3, 1, 1);
        due("20: rows of all tables", x.save(1), 2);
        due("20: is no change", x.count(11), 2);
        x.state(LAY, 3, 2, 1);
        due("20: the one slot", x.restore(0), 0);
        due("20: the other", x.restore(1), 2);
        x.state(DROP, 3, 1, 0);
        due("20: overwritten", x.save(1), 1);
        x.state(DROP, 0, 1, 0);
        due("20: the new one", x.restore(1), 1);
        due("20: its row", x.value(0, 1), 1);
    }

    private static void restore() {
        TriggerStages x = new TriggerStages();
        due("21: slot -1", x.restore(-1), BAD_VALUE);
        due("21: slot 2", x.restore(2), BAD_VALUE);
        due("21: nothing saved", x.restore(0), NOT_POSSIBLE);
        due("21: no change", x.count(11), 0);
        make(x, 0, LAY, BEHIND, 1, DO_LAY, 1, 2, 3);
        x.set(0, 5);
        x.set(1, 1);
        x.state(LAY, 0, 1, 1);
        put(x, "d0.1");
        x.save(0);
        x.dropTrigger(0);
        x.set(0, 2);
        x.set(1, 0);
        x.state(DROP, 0, 1, 1);
        x.wipe();
        put(x, "d0.1;");
        due("21: rows", x.restore(0), 2);
        due("21: a row", x.value(1, 3), 3);
        due("21: the trigger", x.ofTrigger(0, 6), 2);
        due("21: settings", x.count(7) * 10 + x.count(8), 51);
        dueJournal("21: the journal", x, new int[][] {{LAY, 0, 1, 1, 0, NONE}, {LAY, 1, 3, 3, 1, 0}});
        due("21: the pad stays", x.count(10), 5);
        due("21: a change", x.count(11), 6);
        x.state(DROP, 1, 3, 0);
        due("21: the slot keeps it", x.restore(0), 2);
        due("21: the row, again", x.value(1, 3), 3);
        due("21: undo", x.undo(), 5);
        due("21: undone", x.value(1, 3), NONE);
        due("21: the other slot is empty", x.restore(1), NOT_POSSIBLE);
    }
}
