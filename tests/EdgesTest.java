/**
 * The least and the greatest values that the promises' parameters may have, and the edges of the history and the slots.
 * What lies just outside of them is in RefusedTest.
 */
public final class EdgesTest extends Checks {
    public static void main(String[] args) {
        aNewObjectIsEmpty();
        objectsAreTheirOwn();
        setRecordsTheSameValueToo();
        triggersHaveLeastAndGreatestValues();
        aTriggerRefusesAtFirst();
        deedsHaveLeastAndGreatestValues();
        deedsOfTheFirstAndTheTwelfth();
        theOnlyTriggerIsDropped();
        stateCountsItselfAndItsDeeds();
        triedTellsTheWholeChain();
        triedChangesNothing();
        rowsOfAFullTable();
        valuesOfTheLeastAndTheGreatestKey();
        whatATriggerCouldSetOff();
        whetherATriggerCouldSetOffItself();
        theJournalIsOfTheLatest();
        theJournalKeepsTheNumbersOfThen();
        countsOfAFullObject();
        culpritsAloneWouldDo();
        culpritsByWhatIsLeftAway();
        leastDepthFrom0To8();
        leastDepthByBarsAndLenience();
        undoOfUpToSixChanges();
        theSeventhChangeDropsTheOldest();
        theHistoryGoesRound();
        eachChangeIsUndone();
        whatIsNoChangeRecordsNothing();
        undoLeavesThePadAndTheSlots();
        undoIsNoChange();
        bothSlotsAreTheirOwn();
        aSlotIsOverwritten();
        aSlotOfAnEmptyObject();
        aSlotHoldsAllButPadAndHistory();
        aRestoreIsAChange();
        aSlotKeepsWhatWasRestored();
        end("the edges stand");
    }

    private static void aNewObjectIsEmpty() {
        TriggerStages x = new TriggerStages();
        for (int table = 0; table < 4; table++) {
            due("rows of table " + table, x.count(table), 0);
            due("first row of table " + table, x.row(table, 0, 0), NO_SUCH);
            due("least key of table " + table, x.value(table, 0), NONE);
            due("greatest key of table " + table, x.value(table, 99), NONE);
        }
        due("triggers", x.count(4), 0);
        due("the first trigger", x.ofTrigger(0, 0), NO_SUCH);
        due("the journal", x.count(5), 0);
        due("its first statement", x.journal(0, 0), NO_SUCH);
        due("the sum", x.count(6), 0);
        due("DEPTH", x.count(7), 4);
        due("LENIENT", x.count(8), 0);
        due("the set of triggers", x.count(9), 0);
        due("the pad", x.count(10), 0);
        due("its fault", x.fault(), 0);
        due("changes", x.count(11), 0);
        due("undo", x.undo(), NOT_POSSIBLE);
        due("slot 0", x.restore(0), NOT_POSSIBLE);
        due("slot 1", x.restore(1), NOT_POSSIBLE);
        due("no rows to save", x.save(0), 0);
    }

    private static void objectsAreTheirOwn() {
        TriggerStages x = new TriggerStages();
        TriggerStages y = new TriggerStages();
        x.state(LAY, 0, 1, 1);
        x.trigger(0, LAY, AHEAD, 0);
        x.set(0, 8);
        x.save(0);
        put(x, "d0.1");
        due("nothing of it in another object", y.count(0) + y.count(4) + y.count(5) + y.count(10) + y.count(11), 0);
        due("its DEPTH", y.count(7), 4);
        due("its slot", y.restore(0), NOT_POSSIBLE);
    }

    private static void setRecordsTheSameValueToo() {
        TriggerStages x = new TriggerStages();
        due("DEPTH as it is", x.set(0, 4), 4);
        due("LENIENT as it is", x.set(1, 0), 0);
        due("two changes", x.count(11), 2);
        due("one undone", x.undo(), 1);
        due("DEPTH", x.count(7), 4);
    }

    private static void triggersHaveLeastAndGreatestValues() {
        int[][] triggers = {{0, 0, 0, 0}, {3, 0, 0, 0}, {0, 2, 0, 0}, {0, 0, 2, 0}, {0, 0, 0, 999}, {3, 2, 2, 999}};
        TriggerStages x = new TriggerStages();
        for (int i = 0; i < triggers.length; i++) {
            due("trigger " + i, x.trigger(triggers[i][0], triggers[i][1], triggers[i][2], triggers[i][3]), i);
        }
        for (int i = 0; i < triggers.length; i++) {
            for (int what = 0; what < 4; what++) {
                due("trigger " + i + ", what " + what, x.ofTrigger(i, what), triggers[i][what]);
            }
        }
        due("changes", x.count(11), 6);
    }

    private static void aTriggerRefusesAtFirst() {
        TriggerStages x = new TriggerStages();
        for (int number = 0; number < 12; number++) {
            due("trigger " + number, x.trigger(0, LAY, AHEAD, 0), number);
            x.deed(number, DO_DROP, 3, 99, 999);
        }
        x.dropTrigger(11);
        due("another twelfth", x.trigger(1, DROP, LAST, 7), 11);
        int[] all = {1, DROP, LAST, 7, REFUSE, 0, 0, 0, 0, 0};
        for (int what = 0; what < 10; what++) {
            due("what " + what, x.ofTrigger(11, what), all[what]);
        }
        due("the triggers", x.count(4), 12);
    }

    private static void deedsHaveLeastAndGreatestValues() {
        TriggerStages x = new TriggerStages();
        x.trigger(2, ADD, BEHIND, 500);
        int[][] deeds = {{0, 0, 0, 0}, {3, 0, 0, 0}, {1, 3, 0, 0}, {1, 0, 99, 0}, {2, 0, 0, 999}, {3, 3, 99, 999},
            {0, 3, 99, 999}};
        int previous = REFUSE;
        for (int[] deed : deeds) {
            due("deed " + deed[0], x.deed(0, deed[0], deed[1], deed[2], deed[3]), previous);
            previous = deed[0];
            int[] all = {2, ADD, BEHIND, 500, deed[0], deed[1], deed[2], deed[3]};
            for (int what = 0; what < 8; what++) {
                due("deed " + deed[0] + ", what " + what, x.ofTrigger(0, what), all[what]);
            }
        }
    }

    private static void deedsOfTheFirstAndTheTwelfth() {
        TriggerStages x = new TriggerStages();
        for (int number = 0; number < 12; number++) {
            x.trigger(0, LAY, AHEAD, number);
        }
        due("the first", x.deed(0, DO_LAY, 1, 2, 3), REFUSE);
        due("the twelfth", x.deed(11, DO_ADD, 2, 3, 4), REFUSE);
        for (int number = 0; number < 12; number++) {
            due("deed of " + number, x.ofTrigger(number, 4), number == 0 ? DO_LAY : number == 11 ? DO_ADD : REFUSE);
            due("number of " + number, x.ofTrigger(number, 7), number == 0 ? 3 : number == 11 ? 4 : 0);
        }
    }

    private static void theOnlyTriggerIsDropped() {
        TriggerStages x = new TriggerStages();
        x.trigger(0, LAY, AHEAD, 0);
        due("it refuses", x.state(LAY, 0, 1, 1), NOT_POSSIBLE);
        due("none is left", x.dropTrigger(0), 0);
        due("no trigger", x.ofTrigger(0, 0), NO_SUCH);
        due("none refuses", x.state(LAY, 0, 1, 1), 1);
        due("none to drop", x.dropTrigger(0), NO_SUCH);
    }

    private static void stateCountsItselfAndItsDeeds() {
        TriggerStages x = new TriggerStages();
        due("it alone", x.state(LAY, 0, 0, 0), 1);
        make(x, 0, LAY, BEHIND, 0, DO_LAY, 1, 0, 0);
        due("it and a deed", x.state(LAY, 0, 1, 0), 2);
        x.set(1, 1);
        make(x, 0, LAY, BEHIND, 0, DO_LAY, 1, 0, 0);
        due("what is left out is not done", x.state(LAY, 0, 2, 0), 2);
        due("the journal", x.count(5), 2);
    }

    private static void triedTellsTheWholeChain() {
        TriggerStages x = new TriggerStages();
        x.set(0, 8);
        for (int other = 0; other < 3; other++) {
            x.trigger(3, DROP, LAST, 0);
        }
        for (int from = 8; from >= 0; from--) {
            make(x, from % 4, from / 4, LAST, 0, (from + 1) / 4 + DO_LAY, (from + 1) % 4, 0, 0);
        }
        dueTried("the chain is of trigger numbers", x, new int[] {LAY, 0, 5, 0},
                CUT, 0, 9, 0, 8, 1, 5, 9, 11, 10, 9, 8, 7, 6, 5, 4, 3);
        dueTried("no chain", x, new int[] {ADD, 0, 5, 0}, ROW, 0, 1, 0, 0, 0, 5, 0);
        dueTried("the greatest key", x, new int[] {DROP, 3, 99, 999}, ROW, 0, 1, 0, 0, 3, 99, 0);
        dueTried("the least key", x, new int[] {DROP, 0, 0, 0}, ROW, 0, 1, 0, 0, 0, 0, 0);
    }

    private static void triedChangesNothing() {
        TriggerStages x = new TriggerStages();
        make(x, 0, LAY, BEHIND, 0, DO_LAY, 1, 0, 3);
        x.state(LAY, 2, 2, 2);
        for (int what = 0; what < 21; what++) {
            x.tried(LAY, 0, 1, 1, what);
            x.tried(DROP, 2, 2, 0, what);
        }
        due("rows", x.count(0) * 100 + x.count(1) * 10 + x.count(2), 1);
        due("the journal", x.count(5) * 10 + x.journal(0, 2), 12);
        due("changes", x.count(11), 3);
        due("it goes as was told", x.state(LAY, 0, 1, 1), 2);
    }

    private static void rowsOfAFullTable() {
        TriggerStages x = new TriggerStages();
        for (int row = 0; row < 12; row++) {
            x.state(LAY, 3, 99 - row, 999 - row);
        }
        due("the first key", x.row(3, 0, 0), 88);
        due("the first number", x.row(3, 0, 1), 988);
        due("the last key", x.row(3, 11, 0), 99);
        due("the last number", x.row(3, 11, 1), 999);
        due("behind the last", x.row(3, 12, 0), NO_SUCH);
        due("ahead of the first", x.row(3, -1, 0), NO_SUCH);
        due("another table", x.row(2, 0, 0), NO_SUCH);
        x.state(DROP, 3, 99, 0);
        due("eleven rows", x.row(3, 11, 0), NO_SUCH);
        due("the last of eleven", x.row(3, 10, 0), 98);
    }

    private static void valuesOfTheLeastAndTheGreatestKey() {
        for (int table = 0; table < 4; table++) {
            TriggerStages x = new TriggerStages();
            x.state(LAY, table, 0, 999);
            x.state(LAY, table, 99, 0);
            due("key 0 of table " + table, x.value(table, 0), 999);
            due("key 99 of table " + table, x.value(table, 99), 0);
            due("key 1 of table " + table, x.value(table, 1), NONE);
            due("key 98 of table " + table, x.value(table, 98), NONE);
            due("key 0 of another table", x.value((table + 1) % 4, 0), NONE);
            x.state(DROP, table, 0, 0);
            due("key 0 of table " + table + ", dropped", x.value(table, 0), NONE);
        }
    }

    private static void whatATriggerCouldSetOff() {
        TriggerStages x = new TriggerStages();
        for (int trigger = 0; trigger < 12; trigger++) {
            x.trigger(trigger % 4, trigger / 4, trigger % 3, 999);
        }
        for (int deed = DO_LAY; deed <= DO_DROP; deed++) {
            for (int target = 0; target < 4; target++) {
                x.deed(5, deed, target, 99, 0);
                due("by deed " + deed + " on " + target, x.ofTrigger(5, 8), 1 << (deed - DO_LAY) * 4 + target);
            }
        }
        for (int target = 0; target < 4; target++) {
            x.deed(5, REFUSE, target, 0, 999);
            due("by a REFUSE on " + target, x.ofTrigger(5, 8), 0);
            due("a REFUSE on " + target + ", itself", x.ofTrigger(5, 9), 0);
        }
    }

    private static void whetherATriggerCouldSetOffItself() {
        // Rings of each size: trigger i leads to the next one, the last one of the ring back to the first.
        for (int size = 1; size <= 12; size++) {
            TriggerStages x = new TriggerStages();
            for (int i = 0; i < 12; i++) {
                int to = i < size ? (i + 1) % size : 0;
                make(x, i % 4, i / 4, i % 3, 999, to / 4 + DO_LAY, to % 4, 0, 0);
            }
            due("a ring of " + size, x.count(9), (1 << size) - 1);
            for (int i = 0; i < 12; i++) {
                due("trigger " + i + " by a ring of " + size, x.ofTrigger(i, 9), i < size ? 1 : 0);
            }
            x.deed(size - 1, REFUSE, 0, 0, 0);
            due("a broken ring of " + size, x.count(9), 0);
        }
    }

    private static void theJournalIsOfTheLatest() {
        TriggerStages x = new TriggerStages();
        make(x, 0, LAY, BEHIND, 5, DO_LAY, 3, 99, 999);
        x.state(LAY, 0, 99, 5);
        dueJournal("two statements", x, new int[][] {{LAY, 0, 99, 5, 0, NONE}, {LAY, 3, 98, 999, 1, 0}});
        x.state(LAY, 0, 0, 0);
        dueJournal("one statement", x, new int[][] {{LAY, 0, 0, 0, 0, NONE}});
        x.state(LAY, 0, 0, 0);
        dueJournal("behind one that failed", x, new int[][] {{LAY, 0, 0, 0, 0, NONE}});
        x.tried(LAY, 0, 1, 5, 0);
        x.culprits(LAY, 0, 1, 5);
        x.leastDepth(LAY, 0, 1, 5);
        dueJournal("behind what is tried only", x, new int[][] {{LAY, 0, 0, 0, 0, NONE}});
        x.state(ADD, 3, 98, 0);
        dueJournal("the weight of an ADD is the sum", x, new int[][] {{ADD, 3, 98, 999, 0, NONE}});
        x.state(DROP, 3, 98, 0);
        dueJournal("the weight of a DROP is that of the row", x, new int[][] {{DROP, 3, 98, 999, 0, NONE}});
    }

    private static void theJournalKeepsTheNumbersOfThen() {
        TriggerStages x = new TriggerStages();
        for (int i = 0; i < 11; i++) {
            x.trigger(2, LAY, AHEAD, 999);
        }
        make(x, 0, LAY, LAST, 0, DO_LAY, 1, 0, 0);
        x.state(LAY, 0, 1, 1);
        due("by the twelfth", x.journal(1, 5), 11);
        x.dropTrigger(0);
        due("by the twelfth, then", x.journal(1, 5), 11);
        x.state(LAY, 0, 2, 1);
        due("by the eleventh", x.journal(1, 5), 10);
        x.dropTrigger(10);
        due("it is dropped", x.journal(1, 5), 10);
    }

    private static void countsOfAFullObject() {
        TriggerStages x = new TriggerStages();
        for (int table = 0; table < 4; table++) {
            for (int row = 0; row < 12; row++) {
                x.state(LAY, table, row, 999);
            }
        }
        for (int trigger = 0; trigger < 12; trigger++) {
            make(x, 0, DROP, LAST, 0, DO_DROP, 0, 1, 0);
        }
        x.set(0, 8);
        x.set(1, 1);
        put(x, "d0.1;d0.1;d0.1;d0.1;d0.1;d0.1;d0.1;d0.1;d0.1;d0.1;d0.1;d0.11");
        int[] all = {12, 12, 12, 12, 12, 1, 47952, 8, 1, 4095, 60, 6};
        for (int what = 0; what < 12; what++) {
            due("count(" + what + ")", x.count(what), all[what]);
        }
    }

    private static void culpritsAloneWouldDo() {
        TriggerStages x = new TriggerStages();
        for (int trigger = 0; trigger < 12; trigger++) {
            x.trigger(0, LAY, trigger % 3, 10 * trigger);
        }
        due("only the first", x.culprits(LAY, 0, 5, 9), 1);
        due("two", x.culprits(LAY, 0, 5, 10), 0);
        due("all of them", x.culprits(LAY, 0, 5, 999), 0);
        x.dropTrigger(0);
        due("it does not fail", x.culprits(LAY, 0, 5, 9), NONE);
        due("the second is the first now", x.culprits(LAY, 0, 5, 19), 1);
        TriggerStages y = new TriggerStages();
        for (int trigger = 0; trigger < 12; trigger++) {
            make(y, trigger % 4, trigger / 4, LAST, 0, (trigger + 1) / 4 % 3 + 1, (trigger + 1) % 4, 0, 0);
        }
        due("each of those on the way to the CUT", y.culprits(LAY, 0, 5, 0), 31);
        y.set(0, 8);
        due("each of nine", y.culprits(LAY, 0, 5, 0), 511);
        due("the least values", y.culprits(DROP, 0, 0, 0), 0);
        due("the greatest values", y.culprits(DROP, 3, 99, 999), 0);
    }

    private static void culpritsByWhatIsLeftAway() {
        TriggerStages x = new TriggerStages();
        make(x, 0, LAY, AHEAD, 0, DO_LAY, 1, 0, 1);
        make(x, 0, LAY, BEHIND, 0, DO_LAY, 1, 0, 2);
        due("two that lay the same row", x.culprits(LAY, 0, 5, 0), 3);
        make(x, 0, LAY, LAST, 0, DO_ADD, 1, 0, 0);
        due("and one that needs it", x.culprits(LAY, 0, 5, 0), 3);
        x.deed(2, DO_ADD, 1, 0, 998);
        due("and one that is too much for the second", x.culprits(LAY, 0, 5, 0), 2);
        x.set(1, 1);
        due("LENIENT", x.culprits(LAY, 0, 5, 0), NONE);
        make(x, 1, LAY, LAST, 1, DO_LAY, 2, 0, 1);
        x.trigger(2, LAY, AHEAD, 1);
        due("who sets the refusing one off, or refuses", x.culprits(LAY, 0, 5, 0), 1 << 3 | 1 << 4);
        due("no trigger is gone", x.count(4), 5);
    }

    private static void leastDepthFrom0To8() {
        for (int least = 0; least <= 8; least++) {
            TriggerStages x = new TriggerStages();
            for (int from = 0; from < least; from++) {
                make(x, from % 4, from / 4, LAST, 0, (from + 1) / 4 + DO_LAY, (from + 1) % 4, 0, 0);
            }
            for (int depth = 0; depth <= 8; depth += 4) {
                x.set(0, depth);
                due("least DEPTH " + least + " with DEPTH " + depth, x.leastDepth(LAY, 0, 99, 999), least);
                due("DEPTH stays", x.count(7), depth);
            }
            due("nothing is done", x.count(0) + x.count(5), 0);
        }
        TriggerStages x = new TriggerStages();
        due("the least values", x.leastDepth(LAY, 0, 0, 0), 0);
        due("the greatest values", x.leastDepth(DROP, 3, 99, 999), NONE);
    }

    private static void leastDepthByBarsAndLenience() {
        TriggerStages x = new TriggerStages();
        make(x, 0, LAY, LAST, 0, DO_LAY, 1, 0, 0);
        make(x, 1, LAY, LAST, 0, DO_LAY, 2, 0, 0);
        x.trigger(2, LAY, LAST, 1);
        due("2, below the bar", x.leastDepth(LAY, 0, 1, 0), 2);
        x.deed(1, DO_LAY, 2, 0, 1);
        due("none, at the bar", x.leastDepth(LAY, 0, 1, 0), NONE);
        x.deed(2, DO_LAY, 0, 0, 0);
        due("none, the row is there", x.leastDepth(LAY, 0, 1, 0), NONE);
        x.set(1, 1);
        due("3, left out there", x.leastDepth(LAY, 0, 1, 0), 3);
    }

    private static void undoOfUpToSixChanges() {
        for (int changes = 0; changes <= 6; changes++) {
            TriggerStages x = new TriggerStages();
            for (int row = 0; row < changes; row++) {
                x.state(LAY, 0, row, row);
                due("changes behind " + row, x.count(11), row + 1);
            }
            for (int left = changes - 1; left >= 0; left--) {
                due("undo down to " + left + " of " + changes, x.undo(), left);
                due("rows then", x.count(0), left);
                due("changes then", x.count(11), left);
            }
            due("undo of nothing behind " + changes, x.undo(), NOT_POSSIBLE);
            due("it stays so", x.undo(), NOT_POSSIBLE);
            due("no changes are left", x.count(11), 0);
        }
    }

    private static void theSeventhChangeDropsTheOldest() {
        for (int changes = 7; changes <= 12; changes++) {
            TriggerStages x = new TriggerStages();
            for (int row = 0; row < changes; row++) {
                x.state(LAY, 0, row, row);
            }
            due("changes behind " + changes, x.count(11), 6);
            for (int left = 5; left >= 0; left--) {
                due("undo of " + changes, x.undo(), left);
            }
            due("undo of the oldest of " + changes, x.undo(), NOT_POSSIBLE);
            due("what remains of " + changes, x.count(0), changes - 6);
        }
    }

    private static void theHistoryGoesRound() {
        TriggerStages x = new TriggerStages();
        int number = 0;
        x.state(LAY, 0, 0, 0);
        for (int round = 0; round < 20; round++) {
            for (int change = 0; change < 5; change++) {
                x.state(ADD, 0, 0, 1);
            }
            due("behind five more", x.value(0, 0), number + 5);
            due("undo " + round, x.undo(), 5);
            due("undo again " + round, x.undo(), 4);
            number += 3;
            due("two less", x.value(0, 0), number);
            x.state(ADD, 0, 0, 0);
        }
        for (int left = 4; left >= 0; left--) {
            due("undo to the end", x.undo(), left);
        }
        due("and no more", x.undo(), NOT_POSSIBLE);
    }

    private static void eachChangeIsUndone() {
        TriggerStages x = new TriggerStages();
        x.state(LAY, 0, 1, 1);
        x.trigger(3, DROP, LAST, 9);
        x.save(0);
        x.set(0, 8);
        x.undo();
        due("set(0) undone", x.count(7), 4);
        x.set(1, 1);
        x.undo();
        due("set(1) undone", x.count(8), 0);
        x.trigger(0, LAY, AHEAD, 0);
        x.undo();
        due("trigger undone", x.count(4), 1);
        x.deed(0, DO_DROP, 3, 99, 999);
        x.undo();
        due("deed undone", x.ofTrigger(0, 4) + x.ofTrigger(0, 5) + x.ofTrigger(0, 6) + x.ofTrigger(0, 7), 0);
        x.dropTrigger(0);
        x.undo();
        due("dropTrigger undone", x.ofTrigger(0, 3), 9);
        x.state(ADD, 0, 1, 5);
        x.undo();
        due("state undone", x.value(0, 1) * 10 + x.journal(0, 0), 10);
        put(x, "a0.1+5;l1.1=1");
        x.carryOut();
        x.undo();
        due("carryOut undone", x.value(0, 1) * 10 + x.count(1), 10);
        x.state(DROP, 0, 1, 5);
        x.restore(0);
        due("restored", x.count(0), 1);
        x.undo();
        due("restore undone", x.count(0) + x.journal(0, 0), DROP);
    }

    private static void whatIsNoChangeRecordsNothing() {
        TriggerStages x = new TriggerStages();
        x.state(LAY, 0, 1, 1);
        x.trigger(0, DROP, AHEAD, 0);
        x.tried(LAY, 0, 2, 1, 0);
        x.culprits(DROP, 0, 1, 1);
        x.leastDepth(LAY, 0, 2, 1);
        put(x, "d0.1");
        x.fault();
        x.wipe();
        x.save(0);
        x.save(1);
        x.state(DROP, 0, 1, 1);
        x.carryOut();
        x.set(0, 9);
        x.deed(1, 0, 0, 0, 0);
        x.restore(2);
        due("two changes", x.count(11), 2);
    }

    private static void undoLeavesThePadAndTheSlots() {
        TriggerStages x = new TriggerStages();
        x.state(LAY, 0, 1, 1);
        put(x, "l0.2=2");
        x.save(0);
        x.state(LAY, 0, 3, 3);
        x.save(1);
        due("undo", x.undo(), 1);
        due("undo again", x.undo(), 0);
        due("the pad stays", x.count(10), 6);
        due("no rows", x.count(0), 0);
        due("slot 0 stays", x.restore(0), 1);
        due("slot 1 stays", x.restore(1), 2);
        due("the text stays", x.carryOut(), 1);
        due("undo of the text", x.undo(), 2);
        due("the pad is empty still", x.count(10), 0);
        due("an empty text", x.carryOut(), BAD_TEXT);
    }

    private static void undoIsNoChange() {
        TriggerStages x = new TriggerStages();
        x.set(0, 5);
        x.set(0, 6);
        x.set(0, 7);
        due("undo", x.undo(), 2);
        due("another one does not undo the undo", x.undo(), 1);
        due("DEPTH", x.count(7), 5);
        x.set(0, 8);
        due("a change behind it", x.count(11), 2);
        x.undo();
        due("DEPTH again", x.count(7), 5);
        x.undo();
        due("the first DEPTH", x.count(7), 4);
    }

    private static void bothSlotsAreTheirOwn() {
        TriggerStages x = new TriggerStages();
        x.state(LAY, 0, 1, 1);
        due("slot 1", x.save(1), 1);
        due("nothing in slot 0", x.restore(0), NOT_POSSIBLE);
        x.state(LAY, 3, 1, 1);
        due("slot 0", x.save(0), 2);
        x.state(LAY, 2, 1, 1);
        due("back to slot 1", x.restore(1), 1);
        due("table 3 there", x.count(3), 0);
        due("back to slot 0", x.restore(0), 2);
        due("table 3 here", x.count(3), 1);
        due("table 2 here", x.count(2), 0);
    }

    private static void aSlotIsOverwritten() {
        for (int slot = 0; slot < 2; slot++) {
            TriggerStages x = new TriggerStages();
            layRows(x, 1, 12);
            for (int trigger = 0; trigger < 12; trigger++) {
                x.trigger(0, LAY, AHEAD, trigger);
            }
            due("a full one in slot " + slot, x.save(slot), 12);
            for (int i = 0; i < 11; i++) {
                x.dropTrigger(0);
                x.state(DROP, 1, i * 9, 0);
            }
            due("a smaller one in slot " + slot, x.save(slot), 1);
            x.set(0, 0);
            due("restore(" + slot + ")", x.restore(slot), 1);
            due("its rows", x.count(1) * 100 + x.row(1, 0, 0), 199);
            due("its triggers", x.count(4) * 100 + x.ofTrigger(0, 3), 111);
            due("no other trigger", x.ofTrigger(1, 3), NO_SUCH);
            due("its DEPTH", x.count(7), 4);
        }
    }

    private static void aSlotOfAnEmptyObject() {
        TriggerStages x = new TriggerStages();
        due("nothing is saved", x.restore(0), NOT_POSSIBLE);
        due("saved empty", x.save(0), 0);
        due("an empty one is saved", x.restore(0), 0);
        x.state(LAY, 0, 1, 1);
        x.trigger(0, LAY, LAST, 1);
        x.set(1, 1);
        due("the empty one again", x.restore(0), 0);
        due("nothing in it", x.count(0) + x.count(4) + x.count(5) + x.count(8), 0);
        due("the other slot", x.restore(1), NOT_POSSIBLE);
    }

    private static void aSlotHoldsAllButPadAndHistory() {
        TriggerStages x = new TriggerStages();
        x.set(0, 8);
        x.set(1, 1);
        make(x, 0, LAY, BEHIND, 1, DO_LAY, 1, 2, 3);
        x.state(LAY, 0, 1, 1);
        put(x, "d0.1");
        due("two rows", x.save(1), 2);
        x.undo();
        x.undo();
        x.undo();
        x.undo();
        x.undo();
        x.wipe();
        put(x, "d0");
        due("all rows", x.restore(1), 2);
        due("the deed's row", x.row(1, 0, 0) * 10 + x.row(1, 0, 1), 33);
        due("the trigger", x.ofTrigger(0, 4) * 10 + x.ofTrigger(0, 6), 12);
        due("the settings", x.count(7) * 10 + x.count(8), 81);
        dueJournal("the journal", x, new int[][] {{LAY, 0, 1, 1, 0, NONE}, {LAY, 1, 3, 3, 1, 0}});
        due("not the pad", x.count(10), 2);
        due("not the history", x.count(11), 1);
    }

    private static void aRestoreIsAChange() {
        TriggerStages x = new TriggerStages();
        x.save(0);
        for (int change = 1; change <= 8; change++) {
            due("restore", x.restore(0), 0);
            due("changes", x.count(11), Math.min(change, 6));
        }
        for (int left = 5; left >= 0; left--) {
            due("undo of a restore", x.undo(), left);
        }
        due("no more", x.undo(), NOT_POSSIBLE);
    }

    private static void aSlotKeepsWhatWasRestored() {
        TriggerStages x = new TriggerStages();
        make(x, 0, LAY, BEHIND, 1, DO_LAY, 1, 0, 5);
        x.state(LAY, 0, 1, 1);
        x.save(0);
        for (int round = 0; round < 3; round++) {
            due("restore " + round, x.restore(0), 2);
            due("its row " + round, x.value(1, 1), 5);
            due("its trigger " + round, x.ofTrigger(0, 3), 1);
            due("its journal " + round, x.count(5), 2);
            due("its DEPTH " + round, x.count(7), 4);
            x.state(ADD, 1, 1, 1);
            x.state(DROP, 0, 1, 1);
            x.dropTrigger(0);
            x.set(0, round);
        }
    }
}
