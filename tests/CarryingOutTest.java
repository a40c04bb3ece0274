/** The edges that the terms name: how a statement is carried out, its reasons to fail, and LENIENT. */
public final class CarryingOutTest extends Checks {
    public static void main(String[] args) {
        aDepthAboveDepthIsCut();
        theLongestChainIsCut();
        aChainOfStagesIsCut();
        hundredStatementsAreBegun();
        theJournalOfHundredStatements();
        hundredWithThoseLeftOut();
        moreThanHundredWait();
        whatIsLongIsBegunNoMore();
        cutComesAheadOfLong();
        longComesAheadOfMotionAndRow();
        cutComesAheadOfMotionAndRow();
        motionComesAheadOfRow();
        rowComesAheadOfTheDeeds();
        ownTableIsInMotion();
        tablesOfSettersAreInMotion();
        aTableIsInMotionUntilItIsThrough();
        nothingIsInMotionForThoseThatWait();
        refuseInEachStage();
        refuseBehindOtherDeeds();
        firstOfTwoFailuresCounts();
        behindComesAheadOfLast();
        thoseThatWaitGoRoundInTheirOrder();
        nothingRemainsOfWhatFails();
        lenientLeavesOutWhatIsNotPossible();
        whatIsLeftOutSetsNothingOff();
        lenientLeavesNothingElseOut();
        lenientDeedsWithinDeeds();
        end("the sentences of carrying out stand");
    }

    /** Makes triggers from LAY on table 0 to LAY on table 1 .. to ADD on table 0 .. to DROP on table 0 .. */
    private static TriggerStages chain(int triggers, int stage) {
        TriggerStages x = new TriggerStages();
        for (int from = 0; from < triggers; from++) {
            int to = from + 1;
            make(x, from % 4, from / 4, stage, 0, to / 4 + DO_LAY, to % 4, 0, 0);
        }
        return x;
    }

    private static void aDepthAboveDepthIsCut() {
        for (int length = 0; length <= 8; length++) {
            String name = "a chain of " + length;
            TriggerStages x = chain(length, LAST);
            x.set(0, length);
            dueTried(name, x, new int[] {LAY, 0, 5, 0}, 0, length + 1, length + 1, 0, length, NONE, NONE, 0);
            due(name + " at its least DEPTH", x.leastDepth(LAY, 0, 5, 0), length);
            if (length > 0) {
                x.set(0, length - 1);
                due(name + " is cut", x.tried(LAY, 0, 5, 0, 0), CUT);
                due(name + ", begun", x.tried(LAY, 0, 5, 0, 2), length);
                due(name + ", table", x.tried(LAY, 0, 5, 0, 5), length % 4);
                due(name + ", blamed", x.tried(LAY, 0, 5, 0, 7), length);
                due(name + ", state", x.state(LAY, 0, 5, 0), NOT_POSSIBLE);
                x.set(0, length);
            }
            due(name + ", with its DEPTH", x.state(LAY, 0, 5, 0), length + 1);
            due(name + ", depth of the last", x.journal(length, 4), length);
        }
    }

    private static void theLongestChainIsCut() {
        TriggerStages x = chain(9, LAST);
        x.set(0, 8);
        dueTried("a chain of 9", x, new int[] {LAY, 0, 5, 0}, CUT, 0, 9, 0, 8, 1, 5, 9, 0, 1, 2, 3, 4, 5, 6, 7, 8);
        due("no DEPTH lets it go", x.leastDepth(LAY, 0, 5, 0), NONE);
        x.deed(8, REFUSE, 0, 0, 0);
        dueTried("a chain of 9 refused", x, new int[] {LAY, 0, 5, 0},
                REFUSED, 0, 9, 0, 8, 0, 5, 9, 0, 1, 2, 3, 4, 5, 6, 7, 8);
    }

    private static void aChainOfStagesIsCut() {
        for (int stage = AHEAD; stage <= BEHIND; stage++) {
            TriggerStages x = chain(3, stage);
            x.set(0, 2);
            dueTried("cut in stage " + stage, x, new int[] {LAY, 0, 5, 0}, CUT, 0, 3, 0, 2, 3, 5, 3, 0, 1, 2);
            x.set(0, 3);
            due("not cut in stage " + stage, x.state(LAY, 0, 5, 0), 4);
        }
    }

    /**
     * Makes 12 triggers by which an ADD on table 0, key 1, sets off 1 and 3 and 6 and 18 and 72 statements: 100 ones.
     * The row of the last ones weighs 0, so that it sets off none of the first triggers but one with the bar 0.
     */
    private static TriggerStages hundred(int barOfOne) {
        TriggerStages x = new TriggerStages();
        int[] triggers = {3, 2, 3, 4};
        for (int table = 0; table < 4; table++) {
            x.state(LAY, table, 1, table == 0 ? 5 : 0);
            for (int i = 0; i < triggers[table]; i++) {
                int bar = table > 0 ? 0 : i == 2 ? barOfOne : 5;
                make(x, table, ADD, LAST, bar, DO_ADD, (table + 1) % 4, table == 3 ? 1 : 0, 0);
            }
        }
        x.state(LAY, 0, 2, 0);
        return x;
    }

    private static void hundredStatementsAreBegun() {
        TriggerStages x = hundred(5);
        dueTried("100 statements", x, new int[] {ADD, 0, 1, 0}, 0, 100, 100, 0, 4, NONE, NONE, 0);
        due("100 statements are done", x.state(ADD, 0, 1, 0), 100);
        due("another 100 from outside", x.state(ADD, 0, 1, 0), 100);
        TriggerStages y = hundred(0);
        y.set(0, 5);
        dueTried("one more", y, new int[] {ADD, 0, 1, 0}, LONG, 0, 100, 0, 4, 1, 2, 5, 0, 3, 5, 8, 2);
        due("one more, state", y.state(ADD, 0, 1, 0), NOT_POSSIBLE);
        due("no DEPTH lets it go", y.leastDepth(ADD, 0, 1, 0), NONE);
    }

    /** Makes 12 triggers that all are set off by each ADD on table 0, and wait; they add a number to the same row. */
    private static TriggerStages twelveWaiting(int number) {
        TriggerStages x = new TriggerStages();
        x.set(0, 8);
        x.state(LAY, 0, 1, 0);
        for (int i = 0; i < 12; i++) {
            make(x, 0, ADD, LAST, 0, DO_ADD, 0, 0, number);
        }
        return x;
    }

    private static void moreThanHundredWait() {
        int[] statement = {ADD, 0, 1, 0};
        // From outside 1, of the depth 1 all 12, of the depth 2 there are 87: the next one is the 4th of the 8th setter.
        dueTried("the 101st of 1,200", twelveWaiting(0), statement, LONG, 0, 100, 0, 2, 0, 1, 2, 7, 3);
        TriggerStages refusing = twelveWaiting(0);
        refusing.trigger(0, ADD, LAST, 0);
        due("there are 12 already", refusing.count(4), 12);
        refusing.deed(3, REFUSE, 0, 0, 0);
        dueTried("a REFUSE that waits as the 4th", refusing, statement, REFUSED, 0, 4, 0, 1, 0, 1, 1, 3);
        // 499 and 499 are added; what waits behind them is left out, first by those of the depth 1.
        TriggerStages lenient = twelveWaiting(499);
        lenient.set(1, 1);
        dueTried("those left out", lenient, statement, 0, 3, 37, 34, 2, NONE, NONE, 0);
        lenient.state(ADD, 0, 1, 0);
        due("499 and 499", lenient.value(0, 1), 998);
        due("the third would be too much", lenient.journal(3, 0), NO_SUCH);
    }

    private static void theJournalOfHundredStatements() {
        int[] last = {ADD, 0, 2, 0, 4, 11};
        for (int what = 0; what < 6; what++) {
            TriggerStages x = hundred(5);
            x.state(ADD, 0, 1, 0);
            due("statements of a full journal", x.count(5), 100);
            due("the last one, what " + what, x.journal(99, what), last[what]);
            due("behind the last one, what " + what, x.journal(100, what), NO_SUCH);
            due("the one ahead of it, what " + what, x.journal(98, what), what == 5 ? 10 : last[what]);
        }
        TriggerStages x = hundred(5);
        x.state(ADD, 0, 1, 0);
        x.save(1);
        int depths = 0;
        for (int place = 0; place < 100; place++) {
            depths += x.journal(place, 4);
        }
        due("all depths", depths, 3 + 2 * 6 + 3 * 18 + 4 * 72);
        x.state(ADD, 0, 2, 0);
        due("a short journal", x.count(5), 1);
        due("nothing behind it", x.journal(1, 0), NO_SUCH);
        x.undo();
        due("the full journal, undone", x.count(5) + x.journal(99, 5), 111);
        x.state(ADD, 0, 2, 0);
        x.restore(1);
        due("the full journal, restored", x.count(5) + x.journal(99, 5), 111);
    }

    private static void hundredWithThoseLeftOut() {
        TriggerStages x = hundred(5);
        x.set(1, 1);
        for (int trigger = 8; trigger < 12; trigger++) {
            x.deed(trigger, DO_DROP, 0, 3, 0);
        }
        dueTried("72 of 100 left out", x, new int[] {ADD, 0, 1, 0}, 0, 28, 100, 72, 4, NONE, NONE, 0);
        TriggerStages y = hundred(0);
        y.set(0, 5);
        y.set(1, 1);
        y.deed(8, DO_DROP, 0, 3, 0);
        dueTried("one more than 100, with 18 left out", y, new int[] {ADD, 0, 1, 0},
                LONG, 0, 100, 18, 4, 1, 2, 5, 0, 3, 5, 9, 2);
        y.deed(2, DO_DROP, 3, 90, 0);
        y.set(0, 4);
        dueTried("a third of it, and what is left out", y, new int[] {ADD, 0, 1, 0}, CUT, 0, 68, 13, 4, 3, 92, 5,
                0, 3, 5, 9, 2);
    }

    /** Each statement sets off two more, and weighs 1 more than the one before; from this weight on it does a deed. */
    private static TriggerStages doubling(int weight, int... deed) {
        TriggerStages x = new TriggerStages();
        x.set(0, 8);
        x.state(LAY, 0, 1, 0);
        make(x, 0, ADD, LAST, 0, DO_ADD, 0, 0, 1);
        make(x, 0, ADD, LAST, 0, DO_ADD, 0, 0, 1);
        make(x, 0, ADD, BEHIND, weight, deed);
        return x;
    }

    private static void dueReason(String name, TriggerStages x, int reason, int begun, int left) {
        due(name + ": reason", x.tried(ADD, 0, 1, 1, 0), reason);
        due(name + ": begun", x.tried(ADD, 0, 1, 1, 2), begun);
        due(name + ": left out", x.tried(ADD, 0, 1, 1, 3), left);
    }

    private static void whatIsLongIsBegunNoMore() {
        TriggerStages x = doubling(999, REFUSE, 0, 0, 0);
        dueReason("doubling", x, LONG, 100, 0);
        due("doubling: depth", x.tried(ADD, 0, 1, 1, 4), 6);
        due("doubling: blamed", x.tried(ADD, 0, 1, 1, 7), 6);
        TriggerStages y = doubling(100, REFUSE, 0, 0, 0);
        dueReason("the 100th refused", y, REFUSED, 100, 0);
        TriggerStages z = doubling(101, REFUSE, 0, 0, 0);
        dueReason("there is no 101st", z, LONG, 100, 0);
    }

    private static void cutComesAheadOfLong() {
        TriggerStages x = hundred(0);
        dueTried("cut behind 100", x, new int[] {ADD, 0, 1, 0}, CUT, 0, 100, 0, 4, 1, 2, 5, 0, 3, 5, 8, 2);
        TriggerStages y = doubling(100, DO_ADD, 1, 0, 0);
        y.set(0, 6);
        dueReason("the deed of the 100th is cut", y, CUT, 100, 0);
        y.set(0, 7);
        dueReason("the deed of the 100th is too much", y, LONG, 100, 0);
        due("its table", y.tried(ADD, 0, 1, 1, 5), 1);
    }

    private static void longComesAheadOfMotionAndRow() {
        dueReason("MOTION as the 100th", doubling(99, DO_ADD, 0, 0, 1), MOTION, 100, 0);
        dueReason("LONG ahead of MOTION", doubling(100, DO_ADD, 0, 0, 1), LONG, 100, 0);
        dueReason("ROW as the 100th", doubling(99, DO_DROP, 1, 0, 0), ROW, 100, 0);
        dueReason("LONG ahead of ROW", doubling(100, DO_DROP, 1, 0, 0), LONG, 100, 0);
        TriggerStages x = doubling(99, DO_DROP, 1, 0, 0);
        x.set(1, 1);
        dueReason("the 100th left out", x, LONG, 100, 1);
        TriggerStages y = doubling(100, DO_DROP, 1, 0, 0);
        y.set(1, 1);
        dueReason("the 101st is not left out", y, LONG, 100, 0);
    }

    private static void cutComesAheadOfMotionAndRow() {
        TriggerStages x = new TriggerStages();
        x.set(0, 0);
        x.set(1, 1);
        make(x, 0, LAY, BEHIND, 0, DO_LAY, 0, 1, 0);
        dueTried("CUT ahead of MOTION", x, new int[] {LAY, 0, 1, 0}, CUT, 0, 1, 0, 0, 0, 2, 1, 0);
        x.deed(0, DO_DROP, 1, 1, 0);
        dueTried("CUT ahead of ROW", x, new int[] {LAY, 0, 1, 0}, CUT, 0, 1, 0, 0, 1, 2, 1, 0);
    }

    private static void motionComesAheadOfRow() {
        for (int stage = AHEAD; stage <= BEHIND; stage++) {
            TriggerStages x = new TriggerStages();
            x.set(1, 1);
            make(x, 0, LAY, stage, 0, DO_DROP, 0, 50, 0);
            dueTried("MOTION ahead of ROW, stage " + stage, x, new int[] {LAY, 0, 1, 0},
                    MOTION, 0, 2, 0, 1, 0, 51, 1, 0);
        }
    }

    private static void rowComesAheadOfTheDeeds() {
        TriggerStages x = new TriggerStages();
        x.trigger(0, LAY, AHEAD, 0);
        make(x, 0, LAY, AHEAD, 0, DO_LAY, 1, 0, 0);
        x.deed(0, DO_LAY, 2, 0, 0);
        x.state(LAY, 0, 1, 0);
        x.deed(0, REFUSE, 0, 0, 0);
        dueTried("ROW ahead of AHEAD", x, new int[] {LAY, 0, 1, 0}, ROW, 0, 1, 0, 0, 0, 1, 0);
        due("without the row", x.tried(LAY, 0, 2, 0, 0), REFUSED);
    }

    private static void ownTableIsInMotion() {
        int[] reasons = {MOTION, MOTION, 0};
        for (int stage = AHEAD; stage <= LAST; stage++) {
            for (int table = 0; table < 4; table++) {
                for (int target = 0; target < 4; target++) {
                    TriggerStages x = new TriggerStages();
                    make(x, table, LAY, stage, 5, DO_LAY, target, 1, 4);
                    due("stage " + stage + " from table " + table + " to " + target, x.tried(LAY, table, 99, 5, 0),
                            table == target ? reasons[stage] : 0);
                }
            }
        }
        TriggerStages x = new TriggerStages();
        make(x, 0, LAY, BEHIND, 0, DO_LAY, 0, 1, 0);
        dueTried("what is in motion is begun", x, new int[] {LAY, 0, 99, 5}, MOTION, 0, 2, 0, 1, 0, 0, 1, 0);
    }

    private static void tablesOfSettersAreInMotion() {
        for (int stages = 0; stages < 8; stages++) {
            TriggerStages x = new TriggerStages();
            make(x, 0, LAY, stages & 1, 0, DO_LAY, 1, 0, 0);
            make(x, 1, LAY, stages >> 1 & 1, 0, DO_LAY, 2, 0, 0);
            make(x, 2, LAY, stages >> 2 & 1, 0, DO_LAY, 0, 1, 0);
            dueTried("round to the first table, " + stages, x, new int[] {LAY, 0, 5, 0},
                    MOTION, 0, 4, 0, 3, 0, 6, 3, 0, 1, 2);
            x.deed(2, DO_LAY, 1, 1, 0);
            dueTried("back to the second table, " + stages, x, new int[] {LAY, 0, 5, 0},
                    MOTION, 0, 4, 0, 3, 1, 6, 3, 0, 1, 2);
            x.deed(2, DO_LAY, 3, 1, 0);
            due("to the fourth table, " + stages, x.state(LAY, 0, 5, 0), 4);
        }
    }

    private static void aTableIsInMotionUntilItIsThrough() {
        for (int stage = AHEAD; stage <= BEHIND; stage++) {
            TriggerStages x = new TriggerStages();
            make(x, 0, LAY, stage, 0, DO_LAY, 1, 1, 0);
            make(x, 0, LAY, stage, 0, DO_LAY, 1, 2, 0);
            make(x, 0, LAY, stage, 0, DO_DROP, 1, 1, 0);
            due("the same target again, stage " + stage, x.state(LAY, 0, 5, 0), 4);
            make(x, 0, LAY, stage, 0, DO_LAY, 0, 50, 0);
            dueTried("the own table is still in motion, stage " + stage, x, new int[] {LAY, 0, 10, 0},
                    MOTION, 0, 5, 0, 1, 0, 60, 1, 3);
        }
        TriggerStages x = new TriggerStages();
        x.set(1, 1);
        make(x, 0, LAY, AHEAD, 0, DO_DROP, 1, 0, 0);
        make(x, 0, LAY, BEHIND, 0, DO_DROP, 1, 0, 0);
        make(x, 0, LAY, BEHIND, 0, DO_LAY, 1, 0, 0);
        due("not in motion behind what is left out", x.state(LAY, 0, 5, 0), 2);
        due("through behind what fails", x.state(LAY, 0, 5, 0), NOT_POSSIBLE);
        due("nothing is in motion for the next one", x.state(LAY, 0, 6, 0), 2);
    }

    private static void nothingIsInMotionForThoseThatWait() {
        TriggerStages x = new TriggerStages();
        make(x, 0, LAY, BEHIND, 5, DO_LAY, 1, 0, 0);
        for (int target = 0; target < 4; target++) {
            make(x, 1, LAY, LAST, 0, DO_LAY, target, 10, 1);
        }
        x.deed(2, DO_LAY, 2, 20, 1);
        x.deed(3, DO_ADD, 2, 20, 1);
        due("on each table", x.state(LAY, 0, 5, 5), 6);
        due("the first one", x.value(0, 15), 1);
        due("the third one", x.value(2, 25), 2);
    }

    private static void refuseInEachStage() {
        for (int stage = AHEAD; stage <= LAST; stage++) {
            for (int kind = LAY; kind <= DROP; kind++) {
                String name = "refused in stage " + stage + ", kind " + kind;
                TriggerStages x = new TriggerStages();
                x.state(LAY, 2, 7, 500);
                int key = kind == LAY ? 8 : 7;
                int number = kind == LAY ? 500 : 0;
                x.trigger(2, kind, stage, 500);
                dueTried(name, x, new int[] {kind, 2, key, number}, REFUSED, 0, 1, 0, 0, 2, key, 1, 0);
                due(name + ", state", x.state(kind, 2, key, number), NOT_POSSIBLE);
                due(name + ", the row", x.value(2, 7), 500);
                due(name + ", rows", x.count(2), 1);
                due(name + ", the journal", x.journal(0, 0), LAY);
            }
        }
    }

    private static void refuseBehindOtherDeeds() {
        for (int stage = AHEAD; stage <= LAST; stage++) {
            TriggerStages x = new TriggerStages();
            make(x, 0, LAY, AHEAD, 0, DO_LAY, 1, 0, 0);
            make(x, 1, LAY, LAST, 0, DO_LAY, 2, 0, 0);
            make(x, 0, LAY, stage, 0, DO_LAY, 3, 0, 0);
            x.trigger(0, LAY, stage, 0);
            int begun = stage == LAST ? 4 : 3;
            dueTried("refused behind deeds in stage " + stage, x, new int[] {LAY, 0, 5, 0},
                    REFUSED, 0, begun, 0, stage == LAST ? 2 : 1, 0, 5, 1, 3);
            due("state", x.state(LAY, 0, 5, 0), NOT_POSSIBLE);
            due("nothing remains", x.count(0) + x.count(1) + x.count(2) + x.count(3) + x.count(5), 0);
        }
    }

    private static void firstOfTwoFailuresCounts() {
        TriggerStages x = new TriggerStages();
        x.trigger(0, LAY, LAST, 0);
        make(x, 0, LAY, BEHIND, 0, DO_DROP, 1, 3, 0);
        make(x, 0, LAY, AHEAD, 5, DO_LAY, 0, 4, 0);
        dueTried("AHEAD fails first", x, new int[] {LAY, 0, 5, 5}, MOTION, 0, 2, 0, 1, 0, 9, 1, 2);
        dueTried("BEHIND fails first", x, new int[] {LAY, 0, 5, 4}, ROW, 0, 2, 0, 1, 1, 8, 1, 1);
        x.set(1, 1);
        dueTried("LAST fails then", x, new int[] {LAY, 0, 5, 4}, REFUSED, 0, 2, 1, 1, 0, 5, 1, 0);
    }

    private static void behindComesAheadOfLast() {
        TriggerStages x = new TriggerStages();
        make(x, 0, LAY, LAST, 0, DO_LAY, 1, 1, 0);
        make(x, 0, LAY, BEHIND, 0, DO_LAY, 1, 2, 0);
        make(x, 0, LAY, AHEAD, 0, DO_LAY, 1, 3, 0);
        due("all of them", x.state(LAY, 0, 5, 0), 4);
        dueJournal("a trigger of each stage", x, new int[][] {{LAY, 1, 8, 0, 1, 2}, {LAY, 0, 5, 0, 0, NONE},
            {LAY, 1, 7, 0, 1, 1}, {LAY, 1, 6, 0, 1, 0}});
    }

    private static void thoseThatWaitGoRoundInTheirOrder() {
        TriggerStages x = new TriggerStages();
        make(x, 0, LAY, LAST, 0, DO_LAY, 1, 0, 0);
        make(x, 0, LAY, LAST, 0, DO_LAY, 2, 0, 0);
        make(x, 1, LAY, LAST, 0, DO_LAY, 3, 0, 0);
        make(x, 2, LAY, LAST, 0, DO_LAY, 3, 1, 0);
        make(x, 3, LAY, LAST, 0, DO_ADD, 0, 0, 1);
        x.set(1, 1);
        due("those that wait", x.state(LAY, 0, 5, 0), 6);
        due("what is left out", x.tried(LAY, 0, 7, 0, 3), 1);
        dueJournal("those that wait", x, new int[][] {{LAY, 0, 5, 0, 0, NONE}, {LAY, 1, 5, 0, 1, 0},
            {LAY, 2, 5, 0, 1, 1}, {LAY, 3, 5, 0, 2, 2}, {LAY, 3, 6, 0, 2, 3}, {ADD, 0, 5, 1, 3, 4}});
    }

    private static void nothingRemainsOfWhatFails() {
        TriggerStages x = new TriggerStages();
        x.state(LAY, 0, 1, 1);
        x.state(LAY, 1, 1, 1);
        make(x, 2, LAY, AHEAD, 0, DO_ADD, 0, 0, 5);
        make(x, 2, LAY, BEHIND, 0, DO_DROP, 1, 0, 0);
        make(x, 2, LAY, LAST, 0, DO_LAY, 3, 0, 0);
        x.trigger(3, LAY, LAST, 0);
        due("it fails at the very end", x.state(LAY, 2, 1, 7), NOT_POSSIBLE);
        due("the sum is as before", x.value(0, 1), 1);
        due("the dropped row is there", x.value(1, 1), 1);
        due("the laid rows are not", x.count(2) + x.count(3), 0);
        due("the journal is as before", x.count(5) + x.journal(0, 1), 2);
        due("it was no change", x.count(11), 6);
        x.undo();
        due("the latest change is the trigger", x.count(4), 3);
        due("without it, it goes", x.state(LAY, 2, 1, 7), 4);
    }

    private static void lenientLeavesOutWhatIsNotPossible() {
        int[][] deeds = {{DO_LAY, 1, 0, 0}, {DO_LAY, 2, 0, 0}, {DO_ADD, 1, 1, 0}, {DO_ADD, 1, 0, 1},
            {DO_DROP, 3, 0, 0}};
        for (int stage = AHEAD; stage <= LAST; stage++) {
            for (int[] deed : deeds) {
                String name = "left out in stage " + stage + ": " + deed[0] + " on " + deed[1];
                TriggerStages x = new TriggerStages();
                x.state(LAY, 1, 50, 999);
                layRows(x, 2, 12);
                make(x, 0, LAY, stage, 0, deed);
                make(x, 0, LAY, stage, 0, DO_LAY, 3, 0, 7);
                dueTried(name + ", not LENIENT", x, new int[] {LAY, 0, 50, 0},
                        ROW, 0, 2, 0, 1, deed[1], 50 + deed[2], 1, 0);
                due(name + ", not LENIENT", x.state(LAY, 0, 50, 0), NOT_POSSIBLE);
                x.set(1, 1);
                dueTried(name, x, new int[] {LAY, 0, 50, 0}, 0, 2, 3, 1, 1, NONE, NONE, 0);
                due(name, x.state(LAY, 0, 50, 0), 2);
                due(name + ": the deed behind it", x.value(3, 50), 7);
                due(name + ": from outside", x.tried(LAY, 2, 50, 0, 0) + x.tried(DROP, 1, 51, 0, 0), 2 * ROW);
            }
        }
    }

    private static void whatIsLeftOutSetsNothingOff() {
        for (int stage = AHEAD; stage <= LAST; stage++) {
            TriggerStages x = new TriggerStages();
            x.set(1, 1);
            make(x, 0, LAY, BEHIND, 0, DO_ADD, 1, 0, 999);
            x.trigger(1, ADD, stage, 0);
            dueTried("left out, a trigger of stage " + stage, x, new int[] {LAY, 0, 5, 0},
                    0, 1, 2, 1, 1, NONE, NONE, 0);
            x.state(LAY, 1, 5, 1);
            due("too great a sum, a trigger of stage " + stage, x.tried(LAY, 0, 5, 0, 0), 0);
            x.state(DROP, 1, 5, 1);
            x.state(LAY, 1, 5, 0);
            due("with its row, a trigger of stage " + stage, x.tried(LAY, 0, 5, 0, 0), REFUSED);
        }
    }

    private static void lenientLeavesNothingElseOut() {
        for (int stage = AHEAD; stage <= LAST; stage++) {
            TriggerStages x = new TriggerStages();
            x.set(1, 1);
            make(x, 0, LAY, AHEAD, 0, DO_DROP, 3, 0, 0);
            make(x, 0, LAY, stage, 0, DO_LAY, 1, 1, 0);
            make(x, 1, LAY, stage, 0, DO_LAY, 2, 1, 0);
            x.set(0, 1);
            dueTried("CUT, stage " + stage, x, new int[] {LAY, 0, 5, 0}, CUT, 0, 3, 1, 1, 2, 7, 2, 1, 2);
            x.set(0, 2);
            x.deed(2, REFUSE, 0, 0, 0);
            dueTried("REFUSED, stage " + stage, x, new int[] {LAY, 0, 5, 0}, REFUSED, 0, 3, 1, 1, 1, 6, 2, 1, 2);
            x.deed(2, DO_LAY, 1, 1, 0);
            dueTried("MOTION, stage " + stage, x, new int[] {LAY, 0, 5, 0}, stage == LAST ? CUT : MOTION, 0,
                    4, 1, 2, 1, stage == LAST ? 8 : 7, stage == LAST ? 3 : 2, 1, 2, stage == LAST ? 2 : NONE);
            x.state(LAY, 2, 5, 0);
            dueTried("ROW from outside, stage " + stage, x, new int[] {LAY, 2, 5, 0}, ROW, 0, 1, 0, 0, 2, 5, 0);
            due("nothing remains, stage " + stage, x.state(LAY, 0, 5, 0) + x.count(0) + x.count(1), NOT_POSSIBLE);
        }
    }

    private static void lenientDeedsWithinDeeds() {
        for (int stage = AHEAD; stage <= LAST; stage++) {
            TriggerStages x = new TriggerStages();
            x.set(1, 1);
            make(x, 0, LAY, stage, 0, DO_LAY, 1, 0, 0);
            make(x, 1, LAY, stage, 0, DO_DROP, 2, 0, 0);
            make(x, 1, LAY, stage, 0, DO_LAY, 3, 0, 0);
            dueTried("only the inner one is left out, stage " + stage, x, new int[] {LAY, 0, 5, 0},
                    0, 3, 4, 1, 2, NONE, NONE, 0);
            due("state, stage " + stage, x.state(LAY, 0, 5, 0), 3);
            due("its setter is done, stage " + stage, x.value(1, 5), 0);
        }
    }
}
