/** The edges that the terms name: conventions, settings, tables, statements and triggers. */
public final class TermsTest extends Checks {
    public static void main(String[] args) {
        everythingIsNumberedFrom0();
        setsAreBitMasks();
        settingsHaveFirstValuesAndRanges();
        thereAre4Tables();
        tablesHaveUpTo12Rows();
        rowsStandInTheOrderOfTheirKeys();
        rowsAreDroppedAtEachPlace();
        keysAndNumbersHaveRanges();
        layIsPossible();
        addIsPossible();
        dropIsPossible();
        droppedTriggersLetOthersMoveUp();
        theWeightIsAtLeastTheBar();
        aTriggerLooksAtItsTableAndKind();
        allTriggersAreSetOffInTheirOrder();
        theKeyIsLeftOverBy100();
        deedsHaveTargetsAndNumbers();
        end("the sentences of settings, tables and triggers stand");
    }

    private static void everythingIsNumberedFrom0() {
        TriggerStages x = new TriggerStages();
        due("the first trigger", x.trigger(0, LAY, BEHIND, 0), 0);
        x.deed(0, DO_LAY, 3, 0, 8);
        due("the first table", x.state(LAY, 0, 0, 5), 2);
        due("the first row", x.row(0, 0, 1), 5);
        due("the first statement", x.journal(0, 3), 5);
        due("the second statement is by the first trigger", x.journal(1, 5), 0);
        x.state(LAY, 3, 1, 0);
        due("the first trigger of a chain", x.tried(LAY, 0, 1, 5, 8), 0);
    }

    private static void setsAreBitMasks() {
        TriggerStages x = new TriggerStages();
        for (int trigger = 0; trigger < 11; trigger++) {
            x.trigger(3, DROP, AHEAD, 0);
        }
        x.trigger(0, LAY, AHEAD, 0);
        due("a set of the twelfth", x.culprits(LAY, 0, 1, 1), 2048);
        due("the empty set", x.culprits(DROP, 0, 1, 1), 0);
        x.deed(11, DO_LAY, 0, 0, 0);
        due("what the twelfth could set off", x.ofTrigger(11, 8), 2048);
        due("the twelfth could set off itself", x.count(9), 2048);
        x.deed(0, DO_DROP, 3, 0, 0);
        due("what the first could set off", x.ofTrigger(0, 8), 2047);
        due("the first and the twelfth", x.count(9), 2049);
    }

    private static void settingsHaveFirstValuesAndRanges() {
        TriggerStages x = new TriggerStages();
        due("DEPTH is 4 at first", x.count(7), 4);
        due("LENIENT is 0 at first", x.count(8), 0);
        int previous = 4;
        for (int depth = 0; depth <= 8; depth++) {
            due("set(0, " + depth + ")", x.set(0, depth), previous);
            due("DEPTH " + depth, x.count(7), depth);
            previous = depth;
        }
        due("DEPTH 9", x.set(0, 9), BAD_VALUE);
        due("DEPTH -1", x.set(0, -1), BAD_VALUE);
        due("DEPTH is still 8", x.count(7), 8);
        due("set(1, 1)", x.set(1, 1), 0);
        due("LENIENT 1", x.count(8), 1);
        due("LENIENT 2", x.set(1, 2), BAD_VALUE);
        due("LENIENT -1", x.set(1, -1), BAD_VALUE);
        due("LENIENT is still 1", x.count(8), 1);
        due("set(1, 0)", x.set(1, 0), 1);
        due("LENIENT 0", x.count(8), 0);
        due("DEPTH is its own", x.count(7), 8);
    }

    private static void thereAre4Tables() {
        TriggerStages x = new TriggerStages();
        for (int table = 0; table < 4; table++) {
            due("a row in table " + table, x.state(LAY, table, 5, 10 + table), 1);
        }
        for (int table = 0; table < 4; table++) {
            due("the row of table " + table, x.value(table, 5), 10 + table);
        }
        due("table -1", x.state(LAY, -1, 6, 1), NO_SUCH);
        due("table 4", x.state(LAY, 4, 6, 1), NO_SUCH);
    }

    private static void tablesHaveUpTo12Rows() {
        TriggerStages x = new TriggerStages();
        for (int table = 0; table < 4; table++) {
            for (int row = 0; row < 12; row++) {
                due("row " + row + " of table " + table, x.state(LAY, table, 99 - row, 999), 1);
            }
            due("a 13th row of table " + table, x.state(LAY, table, 50, 1), NOT_POSSIBLE);
            due("the reason", x.tried(LAY, table, 50, 1, 0), ROW);
            due("rows of table " + table, x.count(table), 12);
        }
        due("the sum of all numbers of full tables", x.count(6), 48 * 999);
        due("rows in all full tables", x.save(0), 48);
        due("a row less", x.state(DROP, 2, 99, 0), 1);
        due("a 12th row again", x.state(LAY, 2, 50, 1), 1);
        due("and no 13th", x.state(LAY, 2, 51, 1), NOT_POSSIBLE);
    }

    private static void rowsStandInTheOrderOfTheirKeys() {
        for (int first = 0; first < 12; first++) {
            TriggerStages x = new TriggerStages();
            for (int turn = 0; turn < 12; turn++) {
                int key = (first + 5 * turn) % 12 * 9;
                x.state(LAY, 1, key, key + 1);
            }
            for (int place = 0; place < 12; place++) {
                due("key at " + place + ", first " + first, x.row(1, place, 0), place * 9);
                due("number at " + place + ", first " + first, x.row(1, place, 1), place * 9 + 1);
            }
        }
    }

    private static void rowsAreDroppedAtEachPlace() {
        for (int dropped = 0; dropped < 12; dropped++) {
            TriggerStages x = new TriggerStages();
            layRows(x, 3, 12);
            x.state(DROP, 3, dropped * 9, 0);
            due("rows without " + dropped, x.count(3), 11);
            due("no row " + dropped, x.value(3, dropped * 9), NONE);
            for (int place = 0; place < 11; place++) {
                int old = place < dropped ? place : place + 1;
                due("key at " + place + " without " + dropped, x.row(3, place, 0), old * 9);
                due("number at " + place + " without " + dropped, x.row(3, place, 1), old);
            }
            due("the last place without " + dropped, x.row(3, 11, 0), NO_SUCH);
        }
    }

    private static void keysAndNumbersHaveRanges() {
        TriggerStages x = new TriggerStages();
        due("key 0, number 999", x.state(LAY, 0, 0, 999), 1);
        due("key 99, number 0", x.state(LAY, 0, 99, 0), 1);
        due("the number of key 0", x.value(0, 0), 999);
        due("the number of key 99", x.value(0, 99), 0);
        due("key -1", x.state(LAY, 0, -1, 0), BAD_VALUE);
        due("key 100", x.state(LAY, 0, 100, 0), BAD_VALUE);
        due("number -1", x.state(LAY, 0, 1, -1), BAD_VALUE);
        due("number 1000", x.state(LAY, 0, 1, 1000), BAD_VALUE);
        due("number 1000 of a DROP", x.state(DROP, 0, 99, 1000), BAD_VALUE);
        due("number -1 of a DROP", x.state(DROP, 0, 99, -1), BAD_VALUE);
    }

    private static void layIsPossible() {
        TriggerStages x = new TriggerStages();
        layRows(x, 0, 11);
        due("LAY with 11 rows, one of them with the key", x.tried(LAY, 0, 90, 5, 0), ROW);
        due("LAY with 11 rows", x.state(LAY, 0, 99, 5), 1);
        due("LAY with 12 rows", x.tried(LAY, 0, 98, 5, 0), ROW);
        due("LAY with 12 rows, one of them with the key", x.tried(LAY, 0, 99, 5, 0), ROW);
        due("LAY in another table", x.tried(LAY, 1, 99, 5, 0), 0);
        due("the row stays as it was", x.value(0, 90), 10);
    }

    private static void addIsPossible() {
        int[][] sums = {{0, 0, 1}, {0, 999, 1}, {999, 0, 1}, {998, 1, 1}, {500, 499, 1}, {1, 999, 0}, {999, 1, 0},
            {500, 500, 0}, {999, 999, 0}};
        for (int[] sum : sums) {
            TriggerStages x = new TriggerStages();
            x.state(LAY, 2, 40, sum[0]);
            String name = "ADD of " + sum[1] + " to " + sum[0];
            due(name, x.state(ADD, 2, 40, sum[1]), sum[2] == 1 ? 1 : NOT_POSSIBLE);
            due(name + ": the row", x.value(2, 40), sum[2] == 1 ? sum[0] + sum[1] : sum[0]);
        }
        TriggerStages x = new TriggerStages();
        due("ADD in an empty table", x.state(ADD, 0, 0, 0), NOT_POSSIBLE);
        layRows(x, 0, 12);
        due("ADD in a full table", x.state(ADD, 0, 99, 1), 1);
        due("ADD without a row", x.state(ADD, 0, 98, 0), NOT_POSSIBLE);
        due("ADD without a row in this table", x.state(ADD, 1, 99, 0), NOT_POSSIBLE);
    }

    private static void dropIsPossible() {
        TriggerStages x = new TriggerStages();
        due("DROP in an empty table", x.state(DROP, 0, 0, 0), NOT_POSSIBLE);
        x.state(LAY, 0, 0, 500);
        x.state(LAY, 0, 99, 0);
        due("DROP without a row", x.state(DROP, 0, 1, 500), NOT_POSSIBLE);
        due("DROP without a row in this table", x.state(DROP, 1, 0, 500), NOT_POSSIBLE);
        due("DROP with the number 999", x.state(DROP, 0, 0, 999), 1);
        due("DROP of the only row", x.state(DROP, 0, 99, 0), 1);
        due("an empty table", x.count(0), 0);
        due("DROP once more", x.state(DROP, 0, 99, 0), NOT_POSSIBLE);
    }

    private static void droppedTriggersLetOthersMoveUp() {
        for (int dropped = 0; dropped < 12; dropped++) {
            TriggerStages x = new TriggerStages();
            for (int bar = 0; bar < 12; bar++) {
                make(x, bar % 4, LAY, BEHIND, bar, DO_DROP, 0, bar, 100 + bar);
            }
            due("a 13th trigger", x.trigger(0, LAY, AHEAD, 0), TOO_MANY);
            due("drop trigger " + dropped, x.dropTrigger(dropped), 11);
            for (int trigger = 0; trigger < 11; trigger++) {
                int old = trigger < dropped ? trigger : trigger + 1;
                due("table of " + trigger + " without " + dropped, x.ofTrigger(trigger, 0), old % 4);
                due("bar of " + trigger + " without " + dropped, x.ofTrigger(trigger, 3), old);
                due("shift of " + trigger + " without " + dropped, x.ofTrigger(trigger, 6), old);
                due("number of " + trigger + " without " + dropped, x.ofTrigger(trigger, 7), 100 + old);
            }
            due("no trigger 11 without " + dropped, x.ofTrigger(11, 0), NO_SUCH);
            due("a 12th trigger again", x.trigger(0, LAY, AHEAD, 0), 11);
        }
    }

    /** Tells whether a statement on a row with a number (NONE: on no row) sets off a trigger with a bar. */
    private static int setsOff(int kind, int row, int number, int stage, int bar) {
        TriggerStages x = new TriggerStages();
        if (row != NONE) {
            x.state(LAY, 0, 5, row);
        }
        x.trigger(0, kind, stage, bar);
        return x.tried(kind, 0, 5, number, 0) == REFUSED ? 1 : 0;
    }

    private static void theWeightIsAtLeastTheBar() {
        int[][] cases = {{LAY, NONE, 0, 0, 1}, {LAY, NONE, 0, 1, 0}, {LAY, NONE, 499, 500, 0}, {LAY, NONE, 500, 500, 1},
            {LAY, NONE, 998, 999, 0}, {LAY, NONE, 999, 999, 1}, {LAY, NONE, 999, 0, 1},
            {ADD, 0, 0, 0, 1}, {ADD, 0, 0, 1, 0}, {ADD, 4, 5, 9, 1}, {ADD, 4, 5, 10, 0}, {ADD, 9, 0, 9, 1},
            {ADD, 0, 9, 9, 1}, {ADD, 990, 8, 999, 0}, {ADD, 990, 9, 999, 1}, {ADD, 0, 999, 999, 1},
            {DROP, 0, 0, 0, 1}, {DROP, 0, 999, 1, 0}, {DROP, 5, 0, 5, 1}, {DROP, 5, 999, 6, 0},
            {DROP, 998, 999, 999, 0}, {DROP, 999, 0, 999, 1}};
        for (int[] c : cases) {
            for (int stage = AHEAD; stage <= LAST; stage++) {
                due("kind " + c[0] + ", row " + c[1] + ", number " + c[2] + ", stage " + stage + ", bar " + c[3],
                        setsOff(c[0], c[1], c[2], stage, c[3]), c[4]);
            }
        }
    }

    private static void aTriggerLooksAtItsTableAndKind() {
        for (int stage = AHEAD; stage <= LAST; stage++) {
            TriggerStages x = new TriggerStages();
            for (int table = 0; table < 4; table++) {
                x.state(LAY, table, 1, 9);
            }
            for (int trigger = 0; trigger < 12; trigger++) {
                x.trigger(trigger % 4, trigger / 4, stage, 0);
            }
            for (int trigger = 0; trigger < 12; trigger++) {
                int kind = trigger / 4;
                due("kind " + kind + " on table " + trigger % 4 + ", stage " + stage,
                        x.culprits(kind, trigger % 4, kind == LAY ? 2 : 1, 9), 1 << trigger);
            }
        }
    }

    private static void allTriggersAreSetOffInTheirOrder() {
        for (int stage = AHEAD; stage <= LAST; stage++) {
            TriggerStages x = new TriggerStages();
            for (int trigger = 0; trigger < 12; trigger++) {
                make(x, 0, LAY, stage, 0, DO_LAY, 1, 11 - trigger, trigger);
            }
            due("12 triggers of stage " + stage, x.state(LAY, 0, 0, 0), 13);
            int from = stage == AHEAD ? 0 : 1;
            for (int trigger = 0; trigger < 12; trigger++) {
                due("trigger " + trigger + " of stage " + stage, x.journal(from + trigger, 5), trigger);
            }
            due("from outside, stage " + stage, x.journal(stage == AHEAD ? 12 : 0, 5), NONE);
        }
    }

    private static void theKeyIsLeftOverBy100() {
        int[][] keys = {{0, 0, 0}, {0, 99, 99}, {99, 0, 99}, {99, 1, 0}, {1, 99, 0}, {99, 99, 98}, {50, 49, 99},
            {50, 50, 0}, {50, 51, 1}};
        for (int[] key : keys) {
            TriggerStages x = new TriggerStages();
            make(x, 0, LAY, LAST, 0, DO_LAY, 1, key[1], 7);
            x.state(LAY, 0, key[0], 0);
            due("key " + key[0] + " and shift " + key[1], x.value(1, key[2]), 7);
            due("the key in the journal", x.journal(1, 2), key[2]);
        }
    }

    private static void deedsHaveTargetsAndNumbers() {
        for (int target = 0; target < 4; target++) {
            TriggerStages x = new TriggerStages();
            make(x, 0, LAY, LAST, 999, DO_LAY, target, 1, 0);
            make(x, 0, LAY, LAST, 999, DO_LAY, target, 2, 998);
            make(x, 0, LAY, LAST, 999, DO_ADD, target, 2, 1);
            make(x, 0, LAY, LAST, 999, DO_ADD, target, 1, 999);
            make(x, 0, LAY, LAST, 999, DO_DROP, target, 2, 0);
            due("deeds on target " + target, x.state(LAY, 0, 10, 999), 6);
            due("the first row of target " + target, x.value(target, 11), 999);
            due("the other row of target " + target, x.value(target, 12), NONE);
            due("the weight of its DROP", x.journal(5, 3), 999);
        }
    }
}
