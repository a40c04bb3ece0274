/** What the tests have in common: the values of the face, and the comparing of answers with those that are due. */
abstract class Checks {
    static final int NO_SUCH = -1, BAD_VALUE = -2, BAD_TEXT = -3, TOO_MANY = -4, NOT_POSSIBLE = -5, NONE = -6;
    static final int LAY = 0, ADD = 1, DROP = 2;
    static final int REFUSE = 0, DO_LAY = 1, DO_ADD = 2, DO_DROP = 3;
    static final int AHEAD = 0, BEHIND = 1, LAST = 2;
    static final int CUT = 1, LONG = 2, MOTION = 3, ROW = 4, REFUSED = 5;
    static final int LEAST = Integer.MIN_VALUE, GREATEST = Integer.MAX_VALUE;

    private static int wrong = 0;

    static void due(String call, long got, long want) {
        if (got != want) {
            wrong++;
            System.out.println(call + " answered " + got + ", due is " + want);
        }
    }

    static void dueText(String call, String got, String want) {
        if (!got.equals(want)) {
            wrong++;
            System.out.println(call + " shows " + got + ", due is " + want);
        }
    }

    /** Ends the test, with the exit code 1 if an answer was wrong. */
    static void end(String allIsWell) {
        System.out.println(wrong == 0 ? allIsWell : wrong + " answers are not as due");
        if (wrong != 0) {
            System.exit(1);
        }
    }

    /** Makes a trigger, gives it a deed (what, target, shift, number), and returns its number. */
    static int make(TriggerStages x, int table, int kind, int stage, int bar, int... deed) {
        int number = x.trigger(table, kind, stage, bar);
        x.deed(number, deed[0], deed[1], deed[2], deed[3]);
        return number;
    }

    /** Appends a text of any length to the pad, and returns the last answer. */
    static int put(TriggerStages x, String text) {
        int length = 0;
        for (int from = 0; from < text.length(); from += 8) {
            long characters = 0;
            for (int i = from; i < Math.min(from + 8, text.length()); i++) {
                characters = characters << 8 | text.charAt(i);
            }
            length = x.put(characters);
        }
        return length;
    }

    /** Lays rows with the keys 0, 9, 18 .. 99 and the numbers 0, 1, 2 .. into a table. */
    static void layRows(TriggerStages x, int table, int rows) {
        for (int place = 0; place < rows; place++) {
            x.state(LAY, table, place * 9, place);
        }
    }

    static void dueJournal(String name, TriggerStages x, int[][] done) {
        due(name + ": length of the journal", x.count(5), done.length);
        for (int place = 0; place < done.length; place++) {
            for (int what = 0; what < 6; what++) {
                due(name + ": journal(" + place + ", " + what + ")", x.journal(place, what), done[place][what]);
            }
        }
        due(name + ": behind the last", x.journal(done.length, 0), NO_SUCH);
    }

    /** Compares what tried() tells of a statement, from 0 on; behind the last one NONE is due. */
    static void dueTried(String name, TriggerStages x, int[] statement, int... want) {
        for (int what = 0; what < 21; what++) {
            due(name + ": tried " + what, x.tried(statement[0], statement[1], statement[2], statement[3], what),
                    what < want.length ? want[what] : NONE);
        }
    }
}
