import java.util.function.Supplier;
import java.util.function.ToIntFunction;

/**
 * Each call that is refused: its error, the error's place among the others, and that nothing has changed behind it.
 * A call is made on one of two objects that were made alike; then both have to show the same, and to answer undo(),
 * restore() and carryOut() alike.
 */
public final class RefusedTest extends Checks {
    private static final Supplier<TriggerStages> EMPTY = TriggerStages::new;
    private static final Supplier<TriggerStages> BUSY = RefusedTest::busy;
    private static final Supplier<TriggerStages> FULL = RefusedTest::full;

    /** What is done on both objects behind the call, so that the history, the slots and the pad are seen. */
    private enum Look {
        AT_ONCE(0, NONE, false), UNDO_1(1, NONE, false), UNDO_2(2, NONE, false), UNDO_3(3, NONE, false),
        UNDO_4(4, NONE, false), UNDO_5(5, NONE, false), UNDO_6(6, NONE, false), UNDO_7(7, NONE, false),
        RESTORE_0(0, 0, false), RESTORE_1(0, 1, false), CARRY_OUT(0, NONE, true);

        final int undone;
        final int slot;
        final boolean carriesOut;

        Look(int undone, int slot, boolean carriesOut) {
            this.undone = undone;
            this.slot = slot;
            this.carriesOut = carriesOut;
        }
    }

    public static void main(String[] args) {
        set();
        trigger();
        deed();
        dropTrigger();
        stateArguments();
        stateNotPossible();
        tried();
        row();
        value();
        ofTrigger();
        journal();
        count();
        culprits();
        leastDepth();
        put();
        carryOut();
        undo();
        save();
        restore();
        whatOnlyTells();
        end("what is refused changes nothing");
    }

    private static void refuse(String name, Supplier<TriggerStages> world, int error,
            ToIntFunction<TriggerStages> call) {
        for (Look look : Look.values()) {
            TriggerStages one = world.get();
            TriggerStages other = world.get();
            due(name, call.applyAsInt(one), error);
            dueText(name + ", " + look, seen(one, look), seen(other, look));
        }
    }

    private static void refuseEverywhere(String name, int error, ToIntFunction<TriggerStages> call) {
        refuse(name + " of an empty object", EMPTY, error, call);
        refuse(name + " of a busy object", BUSY, error, call);
        refuse(name + " of a full object", FULL, error, call);
    }

    private static String seen(TriggerStages x, Look look) {
        StringBuilder seen = new StringBuilder();
        for (int i = 0; i < look.undone; i++) {
            seen.append("undo ").append(x.undo()).append(", ");
        }
        if (look.slot != NONE) {
            seen.append("restore ").append(x.restore(look.slot)).append(", ");
        }
        if (look.carriesOut) {
            seen.append("carryOut ").append(x.carryOut()).append(", ");
        }
        seen.append("counts");
        for (int what = 0; what < 12; what++) {
            seen.append(' ').append(x.count(what));
        }
        for (int table = 0; table < 4; table++) {
            seen.append(", table ").append(table);
            for (int place = 0; place < x.count(table); place++) {
                seen.append(' ').append(x.row(table, place, 0)).append('=').append(x.row(table, place, 1));
            }
        }
        seen.append(", triggers");
        int triggers = x.count(4);
        for (int i = 0; i < triggers * 8; i++) {
            seen.append(' ').append(x.ofTrigger(i / 8, i % 8));
        }
        seen.append(", journal");
        int journal = x.count(5);
        for (int i = 0; i < journal * 6; i++) {
            seen.append(' ').append(x.journal(i / 6, i % 6));
        }
        return seen.append(", fault ").append(x.fault()).toString();
    }

    /** Some of everything: a full table, three triggers, a history of six, one slot, and a text without a fault. */
    private static TriggerStages busy() {
        TriggerStages x = new TriggerStages();
        layRows(x, 3, 12);
        x.state(LAY, 0, 50, 998);
        x.state(LAY, 1, 50, 0);
        x.save(0);
        make(x, 0, ADD, AHEAD, 999, DO_ADD, 1, 0, 5);
        x.trigger(1, ADD, BEHIND, 10);
        make(x, 2, LAY, LAST, 0, DO_LAY, 3, 1, 1);
        x.set(0, 7);
        x.state(ADD, 0, 50, 1);
        put(x, "d0.50;d3.9;d1.0");
        return x;
    }

    /** Twelve triggers, a full pad, both slots, LENIENT, and DEPTH 0. */
    private static TriggerStages full() {
        TriggerStages x = new TriggerStages();
        layRows(x, 1, 12);
        for (int trigger = 0; trigger < 12; trigger++) {
            make(x, trigger % 4, trigger / 4, trigger % 3, trigger, 1 + trigger % 3, 3 - trigger % 4, trigger, 100);
        }
        x.save(1);
        x.set(1, 1);
        x.state(LAY, 0, 7, 0);
        x.set(0, 0);
        x.state(LAY, 2, 9, 1);
        x.save(0);
        x.state(DROP, 1, 0, 0);
        put(x, "d1.9;d1.18;d1.27;d1.36;d1.45;d1.54;d1.63;d1.72;d1.81;d1.90;d");
        return x;
    }

    private static int[] outside(int greatest) {
        return new int[] {-1, greatest + 1, LEAST, GREATEST};
    }

    private static void set() {
        for (int setting : outside(1)) {
            refuseEverywhere("set(" + setting + ", 0)", BAD_VALUE, x -> x.set(setting, 0));
        }
        for (int depth : outside(8)) {
            refuseEverywhere("set(0, " + depth + ")", BAD_VALUE, x -> x.set(0, depth));
        }
        for (int lenient : outside(1)) {
            refuseEverywhere("set(1, " + lenient + ")", BAD_VALUE, x -> x.set(1, lenient));
        }
        refuseEverywhere("set(2, 9)", BAD_VALUE, x -> x.set(2, 9));
    }

    private static void trigger() {
        for (int table : outside(3)) {
            refuseEverywhere("trigger on table " + table, NO_SUCH, x -> x.trigger(table, LAY, AHEAD, 0));
            refuseEverywhere("trigger on table " + table + ", no kind", NO_SUCH, x -> x.trigger(table, 3, AHEAD, 0));
            refuseEverywhere("trigger on table " + table + ", no stage", NO_SUCH, x -> x.trigger(table, LAY, 3, 0));
            refuseEverywhere("trigger on table " + table + ", no bar", NO_SUCH, x -> x.trigger(table, LAY, LAST, -1));
        }
        for (int kind : outside(2)) {
            refuseEverywhere("trigger of kind " + kind, BAD_VALUE, x -> x.trigger(0, kind, AHEAD, 0));
        }
        for (int stage : outside(2)) {
            refuseEverywhere("trigger of stage " + stage, BAD_VALUE, x -> x.trigger(0, LAY, stage, 0));
        }
        for (int bar : outside(999)) {
            refuseEverywhere("trigger with bar " + bar, BAD_VALUE, x -> x.trigger(0, LAY, AHEAD, bar));
        }
        refuse("a 13th trigger", FULL, TOO_MANY, x -> x.trigger(0, LAY, AHEAD, 0));
        refuse("a 13th trigger with the greatest values", FULL, TOO_MANY, x -> x.trigger(3, DROP, LAST, 999));
    }

    private static void deed() {
        refuse("deed of the first trigger", EMPTY, NO_SUCH, x -> x.deed(0, REFUSE, 0, 0, 0));
        refuse("deed of the fourth trigger", BUSY, NO_SUCH, x -> x.deed(3, REFUSE, 0, 0, 0));
        for (int trigger : outside(11)) {
            refuseEverywhere("deed of trigger " + trigger, NO_SUCH, x -> x.deed(trigger, REFUSE, 0, 0, 0));
            refuseEverywhere("deed of trigger " + trigger + ", no deed", NO_SUCH, x -> x.deed(trigger, 4, 0, 0, 0));
            refuseEverywhere("deed of trigger " + trigger + ", no shift", NO_SUCH, x -> x.deed(trigger, 1, 0, 100, 0));
            refuseEverywhere("deed of trigger " + trigger + ", no number", NO_SUCH, x -> x.deed(trigger, 1, 0, 0, -1));
        }
        for (int target : outside(3)) {
            refuseEverywhere("deed on target " + target, NO_SUCH, x -> x.deed(0, DO_LAY, target, 0, 0));
            refuseEverywhere("REFUSE on target " + target, NO_SUCH, x -> x.deed(0, REFUSE, target, 0, 0));
            refuseEverywhere("deed on target " + target + ", no deed", NO_SUCH, x -> x.deed(0, -1, target, 0, 0));
            refuseEverywhere("deed on target " + target + ", no shift", NO_SUCH, x -> x.deed(0, 1, target, -1, 0));
            refuseEverywhere("deed on target " + target + ", no number", NO_SUCH, x -> x.deed(0, 1, target, 0, 1000));
        }
        for (int deed : outside(3)) {
            refuse("deed " + deed, BUSY, BAD_VALUE, x -> x.deed(2, deed, 0, 0, 0));
            refuse("deed " + deed + " of the last", FULL, BAD_VALUE, x -> x.deed(11, deed, 3, 99, 999));
        }
        for (int shift : outside(99)) {
            refuse("shift " + shift, BUSY, BAD_VALUE, x -> x.deed(0, DO_LAY, 0, shift, 0));
            refuse("shift " + shift + " of a REFUSE", FULL, BAD_VALUE, x -> x.deed(0, REFUSE, 0, shift, 0));
        }
        for (int number : outside(999)) {
            refuse("number " + number, BUSY, BAD_VALUE, x -> x.deed(0, DO_LAY, 0, 0, number));
            refuse("number " + number + " of a DROP", FULL, BAD_VALUE, x -> x.deed(0, DO_DROP, 0, 0, number));
        }
    }

    private static void dropTrigger() {
        refuse("dropTrigger(0)", EMPTY, NO_SUCH, x -> x.dropTrigger(0));
        refuse("dropTrigger(3)", BUSY, NO_SUCH, x -> x.dropTrigger(3));
        for (int trigger : outside(11)) {
            refuseEverywhere("dropTrigger(" + trigger + ")", NO_SUCH, x -> x.dropTrigger(trigger));
        }
    }

    /** A call with the arguments of a statement. */
    private interface Stating {
        int answer(TriggerStages x, int kind, int table, int key, int number);
    }

    private static void arguments(String name, Stating call) {
        for (int table : outside(3)) {
            String on = name + " on table " + table;
            refuseEverywhere(on, NO_SUCH, x -> call.answer(x, LAY, table, 0, 0));
            refuseEverywhere(on + ", no kind", NO_SUCH, x -> call.answer(x, 3, table, 0, 0));
            refuseEverywhere(on + ", no key", NO_SUCH, x -> call.answer(x, LAY, table, 100, 0));
            refuseEverywhere(on + ", no number", NO_SUCH, x -> call.answer(x, LAY, table, 0, -1));
        }
        for (int kind : outside(2)) {
            refuseEverywhere(name + " of kind " + kind, BAD_VALUE, x -> call.answer(x, kind, 0, 0, 0));
        }
        for (int key : outside(99)) {
            refuseEverywhere(name + " with key " + key, BAD_VALUE, x -> call.answer(x, LAY, 3, key, 0));
        }
        for (int number : outside(999)) {
            refuseEverywhere(name + " with number " + number, BAD_VALUE, x -> call.answer(x, LAY, 3, 1, number));
            // These statements would fail, too: the error of an argument comes first.
            refuseEverywhere(name + " of a DROP with number " + number, BAD_VALUE,
                    x -> call.answer(x, DROP, 2, 99, number));
        }
    }

    private static void stateArguments() {
        arguments("state", (x, kind, table, key, number) -> x.state(kind, table, key, number));
    }

    /** A statement that fails, for this reason. */
    private static void fail(String name, Supplier<TriggerStages> world, int reason, int... s) {
        due(name + ": reason", world.get().tried(s[0], s[1], s[2], s[3], 0), reason);
        refuse(name, world, NOT_POSSIBLE, x -> x.state(s[0], s[1], s[2], s[3]));
    }

    private static void stateNotPossible() {
        fail("ADD in an empty table", EMPTY, ROW, ADD, 0, 0, 0);
        fail("DROP in an empty table", EMPTY, ROW, DROP, 3, 99, 999);
        fail("LAY in a full table", BUSY, ROW, LAY, 3, 1, 0);
        fail("LAY of a row that is there", BUSY, ROW, LAY, 0, 50, 0);
        fail("ADD above 999", BUSY, ROW, ADD, 0, 50, 1);
        fail("ADD without a row", BUSY, ROW, ADD, 3, 1, 0);
        fail("DROP without a row", BUSY, ROW, DROP, 3, 1, 0);
        fail("ROW of a deed at the end", BUSY, ROW, LAY, 2, 1, 0);
        fail("REFUSED behind", BUSY, REFUSED, ADD, 1, 50, 5);
        fail("REFUSED behind, by a deed ahead", BUSY, REFUSED, ADD, 0, 50, 0);
        fail("CUT at DEPTH 0", FULL, CUT, LAY, 0, 1, 0);
        fail("MOTION", () -> {
            TriggerStages x = busy();
            x.deed(0, DO_ADD, 0, 0, 0);
            return x;
        }, MOTION, ADD, 0, 50, 0);
        fail("LONG", () -> {
            TriggerStages x = busy();
            x.dropTrigger(0);
            make(x, 3, ADD, LAST, 0, DO_ADD, 3, 0, 1);
            make(x, 3, ADD, LAST, 0, DO_ADD, 3, 0, 1);
            make(x, 3, ADD, AHEAD, 0, DO_ADD, 0, 41, 0);
            return x;
        }, LONG, ADD, 3, 9, 1);
    }

    private static void tried() {
        for (int what : new int[] {0, 20}) {
            arguments("tried " + what, (x, kind, table, key, number) -> x.tried(kind, table, key, number, what));
        }
        for (int what : outside(20)) {
            refuseEverywhere("tried " + what, BAD_VALUE, x -> x.tried(LAY, 0, 0, 0, what));
            refuseEverywhere("tried " + what + " of what fails", BAD_VALUE, x -> x.tried(DROP, 0, 0, 0, what));
            refuseEverywhere("tried " + what + " on no table", NO_SUCH, x -> x.tried(LAY, 4, 0, 0, what));
        }
    }

    private static void row() {
        for (int table : outside(3)) {
            refuseEverywhere("row of table " + table, NO_SUCH, x -> x.row(table, 0, 0));
            refuseEverywhere("row of table " + table + ", what 2", NO_SUCH, x -> x.row(table, 0, 2));
        }
        for (int place : outside(11)) {
            refuseEverywhere("row " + place, NO_SUCH, x -> x.row(3, place, 0));
            refuseEverywhere("row " + place + ", what -1", NO_SUCH, x -> x.row(3, place, -1));
        }
        refuse("row 0 of an empty table", EMPTY, NO_SUCH, x -> x.row(0, 0, 0));
        refuse("row 1 of one row", BUSY, NO_SUCH, x -> x.row(0, 1, 0));
        refuse("row 1 of one row, what 2", BUSY, NO_SUCH, x -> x.row(0, 1, 2));
        for (int what : outside(1)) {
            refuse("row, what " + what, BUSY, BAD_VALUE, x -> x.row(3, 11, what));
        }
    }

    private static void value() {
        for (int table : outside(3)) {
            refuseEverywhere("value of table " + table, NO_SUCH, x -> x.value(table, 0));
            refuseEverywhere("value of table " + table + ", no key", NO_SUCH, x -> x.value(table, 100));
        }
        for (int key : outside(99)) {
            refuseEverywhere("value of key " + key, BAD_VALUE, x -> x.value(3, key));
        }
        refuse("value of no row", EMPTY, NONE, x -> x.value(0, 0));
        refuse("value of no row in a full table", BUSY, NONE, x -> x.value(3, 98));
    }

    private static void ofTrigger() {
        refuse("ofTrigger(0, 0)", EMPTY, NO_SUCH, x -> x.ofTrigger(0, 0));
        refuse("ofTrigger(3, 9)", BUSY, NO_SUCH, x -> x.ofTrigger(3, 9));
        for (int trigger : outside(11)) {
            refuseEverywhere("ofTrigger(" + trigger + ", 9)", NO_SUCH, x -> x.ofTrigger(trigger, 9));
            refuseEverywhere("ofTrigger(" + trigger + ", 10)", NO_SUCH, x -> x.ofTrigger(trigger, 10));
            refuseEverywhere("ofTrigger(" + trigger + ", -1)", NO_SUCH, x -> x.ofTrigger(trigger, -1));
        }
        for (int what : outside(9)) {
            refuse("ofTrigger(0, " + what + ")", BUSY, BAD_VALUE, x -> x.ofTrigger(0, what));
            refuse("ofTrigger(11, " + what + ")", FULL, BAD_VALUE, x -> x.ofTrigger(11, what));
        }
    }

    private static void journal() {
        refuse("an empty journal", EMPTY, NO_SUCH, x -> x.journal(0, 0));
        refuse("an empty journal, what 6", EMPTY, NO_SUCH, x -> x.journal(0, 6));
        refuse("behind the journal", BUSY, NO_SUCH, x -> x.journal(2, 5));
        refuse("behind the journal, what -1", BUSY, NO_SUCH, x -> x.journal(2, -1));
        for (int place : outside(99)) {
            refuseEverywhere("journal(" + place + ", 0)", NO_SUCH, x -> x.journal(place, 0));
            refuseEverywhere("journal(" + place + ", 6)", NO_SUCH, x -> x.journal(place, 6));
        }
        for (int what : outside(5)) {
            refuse("journal(1, " + what + ")", BUSY, BAD_VALUE, x -> x.journal(1, what));
        }
    }

    private static void count() {
        for (int what : outside(11)) {
            refuseEverywhere("count(" + what + ")", BAD_VALUE, x -> x.count(what));
        }
    }

    private static void culprits() {
        arguments("culprits", (x, kind, table, key, number) -> x.culprits(kind, table, key, number));
        refuse("culprits of what does not fail", EMPTY, NONE, x -> x.culprits(LAY, 0, 0, 0));
        refuse("culprits of what fails", BUSY, 1 << 2, x -> x.culprits(LAY, 2, 1, 0));
        refuse("two culprits", BUSY, 1 | 1 << 1, x -> x.culprits(ADD, 0, 50, 0));
        refuse("no culprits", BUSY, 0, x -> x.culprits(LAY, 0, 50, 0));
    }

    private static void leastDepth() {
        arguments("leastDepth", (x, kind, table, key, number) -> x.leastDepth(kind, table, key, number));
        refuse("no DEPTH", EMPTY, NONE, x -> x.leastDepth(DROP, 0, 0, 0));
        refuse("no DEPTH by a REFUSE", BUSY, NONE, x -> x.leastDepth(ADD, 0, 50, 0));
        refuse("DEPTH 0", BUSY, 0, x -> x.leastDepth(DROP, 0, 50, 0));
    }

    private static void put() {
        long[] wrong = {0, 32, 127, 128, 255, -1, 0x4100, 0x410041, 0x2041, 0x7F41, 0x0100000000000041L, Long.MIN_VALUE,
            Long.MAX_VALUE, 0x2041414141414141L, 0x41414141414141L << 8, 0x4141414141414120L};
        for (long characters : wrong) {
            refuseEverywhere("put(" + characters + ")", BAD_VALUE, x -> x.put(characters));
        }
        refuse("a 61st character", FULL, TOO_MANY, x -> x.put('0'));
        refuse("a 61st to a 68th character", FULL, TOO_MANY, x -> x.put(0x3030303030303030L));
        refuse("a 61st character behind a 60th", () -> {
            TriggerStages x = full();
            x.wipe();
            put(x, "d1.9;d1.18;d1.27;d1.36;d1.45;d1.54;d1.63;d1.72;d1.81;d1.90;");
            return x;
        }, TOO_MANY, x -> x.put(0x3030));
    }

    private static void carryOut() {
        refuse("carryOut of an empty text", EMPTY, BAD_TEXT, TriggerStages::carryOut);
        refuse("carryOut of a text that ends too early", FULL, BAD_TEXT, TriggerStages::carryOut);
        refuse("carryOut of a text with a fault", () -> {
            TriggerStages x = busy();
            put(x, "0;l2.0=0");
            return x;
        }, BAD_TEXT, TriggerStages::carryOut);
    }

    private static void undo() {
        refuse("undo of nothing", EMPTY, NOT_POSSIBLE, TriggerStages::undo);
        refuse("undo of a seventh change", () -> {
            TriggerStages x = busy();
            for (int i = 0; i < 6; i++) {
                x.undo();
            }
            return x;
        }, NOT_POSSIBLE, TriggerStages::undo);
        refuse("undo behind what is no change", () -> {
            TriggerStages x = new TriggerStages();
            x.save(0);
            put(x, "d0.1");
            x.wipe();
            return x;
        }, NOT_POSSIBLE, TriggerStages::undo);
    }

    private static void save() {
        for (int slot : outside(1)) {
            refuseEverywhere("save(" + slot + ")", BAD_VALUE, x -> x.save(slot));
        }
    }

    private static void restore() {
        for (int slot : outside(1)) {
            refuseEverywhere("restore(" + slot + ")", BAD_VALUE, x -> x.restore(slot));
        }
        refuse("restore(0) of nothing", EMPTY, NOT_POSSIBLE, x -> x.restore(0));
        refuse("restore(1) of nothing", EMPTY, NOT_POSSIBLE, x -> x.restore(1));
        refuse("restore(1) with the other slot saved", BUSY, NOT_POSSIBLE, x -> x.restore(1));
    }

    /** Calls that only tell something leave everything as it is, too. */
    private static void whatOnlyTells() {
        for (int what = 0; what < 8; what++) {
            int told = what;
            int[] going = {0, 1, 1, 0, 0, NONE, NONE, 0};
            refuse("tried " + what + " of what goes", BUSY, going[what], x -> x.tried(DROP, 3, 99, 0, told));
            int[] failing = {REFUSED, 0, 2, 0, 1, 1, 50, 2};
            refuse("tried " + what + " of what fails", BUSY, failing[what], x -> x.tried(ADD, 0, 50, 0, told));
        }
        refuse("row", BUSY, 99, x -> x.row(3, 11, 0));
        refuse("value", BUSY, 999, x -> x.value(0, 50));
        refuse("ofTrigger 8", BUSY, 1 << 1, x -> x.ofTrigger(0, 8));
        refuse("ofTrigger 9", BUSY, 0, x -> x.ofTrigger(0, 9));
        refuse("journal", BUSY, 999, x -> x.journal(1, 3));
        refuse("count 9", BUSY, 0, x -> x.count(9));
        refuse("fault of nothing", EMPTY, 0, TriggerStages::fault);
        refuse("fault of a whole text", BUSY, NONE, TriggerStages::fault);
        refuse("fault of a full pad", FULL, 60, TriggerStages::fault);
        refuse("wipe of an empty pad", EMPTY, 0, TriggerStages::wipe);
    }
}
