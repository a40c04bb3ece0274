/** The edges that the terms name: the pad, its grammar and its fault; with the promises 15 to 18 that stand on them. */
public final class TextsTest extends Checks {
    private static final String TWELVE = "d0.0;d0.1;d0.2;d0.3;d0.4;d0.5;d0.6;d0.7;d0.8;d0.9;d1.0;d1.1";

    public static void main(String[] args) {
        charactersHaveCodesFrom33To126();
        nothingStandsAboveTheEnd();
        thereIsAtLeastOneCharacter();
        oneTo8CharactersArePut();
        theLowestBitsAreTheLastCharacter();
        thePadHasAtMost60Characters();
        aWrongCodeComesAheadOfTooMany();
        aWipedPadIsEmpty();
        anEmptyTextHasItsFaultAtItsEnd();
        aTextThatEndsTooEarly();
        tablesAreDigitsFrom0To3();
        keysAreFrom0To99();
        numbersAreFrom0To999();
        leadingZerosAreFaults();
        onlyDigitsStandInNumbers();
        eachSignHasItsPlace();
        theFirstFaultCounts();
        aFullPadIsRead();
        statementsOfATextAreDone();
        aTextWithAFaultStays();
        carriedOutUpToTheFirstThatFails();
        eachStatementIsFromOutside();
        carryOutIsOneChange();
        end("the sentences of texts stand");
    }

    private static void dueFault(String text, int want) {
        TriggerStages x = new TriggerStages();
        put(x, text);
        due("fault of " + text, x.fault(), want);
        due("length of " + text, x.count(10), text.length());
        if (want != NONE) {
            due("carryOut of " + text, x.carryOut(), BAD_TEXT);
            due("it stays: " + text, x.count(10), text.length());
            due("no change: " + text, x.count(11), 0);
        }
    }

    private static void charactersHaveCodesFrom33To126() {
        for (int code = 1; code < 256; code++) {
            TriggerStages x = new TriggerStages();
            boolean stands = code >= 33 && code <= 126;
            due("code " + code, x.put(code), stands ? 1 : BAD_VALUE);
            for (int above = 1; above < 8; above++) {
                long characters = 0x4141414141414141L >>> 8 * (8 - above) | (long) code << 8 * above;
                due("code " + code + " above " + above, new TriggerStages().put(characters),
                        stands ? above + 1 : BAD_VALUE);
            }
            due("code " + code + " below others", x.put(0x4141414141414100L | code), stands ? 9 : BAD_VALUE);
            due("length behind code " + code, x.count(10), stands ? 9 : 0);
        }
    }

    private static void nothingStandsAboveTheEnd() {
        for (int end = 0; end < 7; end++) {
            long below = end == 0 ? 0 : 0x41414141414141L >>> 8 * (7 - end);
            for (int bit = 8 * (end + 1); bit < 64; bit++) {
                TriggerStages x = new TriggerStages();
                due("bit " + bit + " above the end at " + end, x.put(below | 1L << bit), BAD_VALUE);
                due("nothing was put", x.count(10), 0);
            }
        }
    }

    private static void thereIsAtLeastOneCharacter() {
        TriggerStages x = new TriggerStages();
        due("no character", x.put(0), BAD_VALUE);
        due("eight times 255", x.put(-1), BAD_VALUE);
        due("the least number", x.put(Long.MIN_VALUE), BAD_VALUE);
        due("the greatest number", x.put(Long.MAX_VALUE), BAD_VALUE);
        due("nothing was put", x.count(10), 0);
        due("the least character", x.put(33), 1);
        due("eight of the greatest", x.put(0x7E7E7E7E7E7E7E7EL), 9);
        due("eight of the least", x.put(0x2121212121212121L), 17);
    }

    private static void oneTo8CharactersArePut() {
        TriggerStages x = new TriggerStages();
        int length = 0;
        for (int characters = 1; characters <= 8; characters++) {
            length += characters;
            due(characters + " characters", x.put(0x3B3B3B3B3B3B3B3BL >>> 8 * (8 - characters)), length);
            due("the length behind " + characters, x.count(10), length);
        }
    }

    private static void theLowestBitsAreTheLastCharacter() {
        TriggerStages x = new TriggerStages();
        x.put((long) 'l' << 32 | '2' << 24 | '.' << 16 | '3' << 8 | '4');
        x.put('=' << 16 | '5' << 8 | '6');
        due("l2.34=56", x.carryOut(), 1);
        due("its row", x.value(2, 34), 56);
    }

    private static TriggerStages padOf(int length) {
        TriggerStages x = new TriggerStages();
        for (int i = 0; i < length; i++) {
            x.put(';');
        }
        return x;
    }

    private static void thePadHasAtMost60Characters() {
        for (int characters = 1; characters <= 8; characters++) {
            long text = 0x3131313131313131L >>> 8 * (8 - characters);
            TriggerStages x = padOf(60 - characters);
            due(characters + " up to 60", x.put(text), 60);
            due("a 61st", x.put('1'), TOO_MANY);
            TriggerStages y = padOf(61 - characters);
            due(characters + " up to 61", y.put(text), TOO_MANY);
            due("none of them was put", y.count(10), 61 - characters);
        }
        TriggerStages x = padOf(59);
        due("two up to 61", x.put(0x3131), TOO_MANY);
        due("one up to 60", x.put(0x31), 60);
        due("eight above 60", x.put(0x3131313131313131L), TOO_MANY);
        due("a full pad", x.count(10), 60);
        due("a full pad is wiped", x.wipe(), 60);
        due("then there is room", x.put(0x31), 1);
    }

    private static void aWrongCodeComesAheadOfTooMany() {
        TriggerStages x = padOf(60);
        due("no character", x.put(0), BAD_VALUE);
        due("code 32", x.put(32), BAD_VALUE);
        due("code 127", x.put(127), BAD_VALUE);
        due("a bit above the end", x.put(0x4100000041L), BAD_VALUE);
        due("code 33", x.put(33), TOO_MANY);
        due("code 126", x.put(126), TOO_MANY);
    }

    private static void aWipedPadIsEmpty() {
        TriggerStages x = new TriggerStages();
        due("an empty pad", x.wipe(), 0);
        put(x, "l0.1=2");
        due("a pad of 6", x.wipe(), 6);
        due("it is empty", x.count(10), 0);
        due("its fault", x.fault(), 0);
        due("it is empty once more", x.wipe(), 0);
        put(x, "d0");
        due("nothing of the old text is read", x.fault(), 2);
        due("no change", x.count(11), 0);
    }

    private static void anEmptyTextHasItsFaultAtItsEnd() {
        dueFault("", 0);
    }

    private static void aTextThatEndsTooEarly() {
        String[] wholes = {"l0.0=0", "a3.99+999", "d2.10", "l0.1=2;a0.1+3;d0.1"};
        int[][] ends = {{6}, {7, 8, 9}, {4, 5}, {6, 13, 18}};
        for (int i = 0; i < wholes.length; i++) {
            for (int length = 0; length <= wholes[i].length(); length++) {
                boolean isWhole = false;
                for (int end : ends[i]) {
                    isWhole |= end == length;
                }
                dueFault(wholes[i].substring(0, length), isWhole ? NONE : length);
            }
        }
    }

    private static void tablesAreDigitsFrom0To3() {
        for (int table = 0; table <= 9; table++) {
            dueFault("l" + table + ".1=1", table <= 3 ? NONE : 1);
            dueFault("a" + table + ".1+1", table <= 3 ? NONE : 1);
            dueFault("d" + table + ".1", table <= 3 ? NONE : 1);
            dueFault("d0" + table + ".1", 2);
            dueFault("d3" + table + ".1", 2);
        }
    }

    private static void keysAreFrom0To99() {
        for (int key = 0; key <= 130; key++) {
            dueFault("d1." + key, key <= 99 ? NONE : 5);
            dueFault("l1." + key + "=1", key <= 99 ? NONE : 5);
        }
        dueFault("a1.999+1", 5);
        dueFault("a1.990+1", 5);
        dueFault("d1.100;x", 5);
    }

    private static void numbersAreFrom0To999() {
        int[] numbers = {0, 1, 9, 10, 99, 100, 101, 998, 999, 1000, 1001, 9990, 9999, 10000};
        for (int number : numbers) {
            dueFault("l1.1=" + number, number <= 999 ? NONE : 8);
            dueFault("a1.10+" + number, number <= 999 ? NONE : 9);
            dueFault("d0.1;l1.1=" + number, number <= 999 ? NONE : 13);
        }
    }

    private static void leadingZerosAreFaults() {
        for (int digit = 0; digit <= 9; digit++) {
            dueFault("d1.0" + digit, 4);
            dueFault("l1.0" + digit + "=1", 4);
            dueFault("l1.1=0" + digit, 6);
            dueFault("a1.1+0" + digit, 6);
        }
        dueFault("l1.1=000", 6);
        dueFault("l1.1=10", NONE);
        dueFault("l1.1=100", NONE);
    }

    /** The signs beside the digits are no digits: / is 1 below 0, and : is 1 above 9. */
    private static void onlyDigitsStandInNumbers() {
        for (char sign : new char[] {'/', ':', '!', '~', '-', 'l'}) {
            dueFault("d" + sign + ".1", 1);
            dueFault("d1." + sign, 3);
            dueFault("d1.1" + sign, 4);
            dueFault("d1.11" + sign, 5);
            dueFault("l1.1=" + sign, 5);
            dueFault("l1.1=1" + sign, 6);
            dueFault("l1.1=11" + sign, 7);
            dueFault("l1.1=111" + sign, 8);
        }
    }

    private static void eachSignHasItsPlace() {
        String text = "l0.1=2;a3.45+678;d2.9";
        for (int at = 0; at < text.length(); at++) {
            for (char sign : "lad.=+;x~!".toCharArray()) {
                if (sign == text.charAt(at)) {
                    continue;
                }
                String wrong = text.substring(0, at) + sign + text.substring(at + 1);
                boolean isKind = "lad".indexOf(text.charAt(at)) >= 0 && "lad".indexOf(sign) >= 0;
                if (isKind) {
                    // Another kind wants another sign behind the key, or none.
                    dueFault(wrong, at == 0 ? 4 : at == 7 ? 12 : 21);
                } else if (!couldEndTheNumber(text, at, sign)) {
                    dueFault(wrong, at);
                }
            }
        }
        dueFault("L0.1=2", 0);
        dueFault("A0.1+2", 0);
        dueFault("D0.1", 0);
        dueFault("d0.1=2", 4);
        dueFault("d0.1+2", 4);
    }

    /** Tells whether a sign in the place of a number's further digit could end the number there. */
    private static boolean couldEndTheNumber(String text, int at, char sign) {
        boolean isInNumber = at > 0 && Character.isDigit(text.charAt(at)) && Character.isDigit(text.charAt(at - 1));
        boolean isSignBehindKey = sign == '=' || sign == '+' || sign == ';';
        return isInNumber && isSignBehindKey;
    }

    private static void theFirstFaultCounts() {
        dueFault(";d0.1", 0);
        dueFault("d0.1;;d0.1", 5);
        dueFault("d0.1;", 5);
        dueFault("x4.100", 0);
        dueFault("d4.100;x", 1);
        dueFault("d0.100;x", 5);
        dueFault("d0.1;d0.1;d4.1;d5.1", 11);
        dueFault("d0.1d0.1", 4);
    }

    private static void aFullPadIsRead() {
        dueFault(TWELVE, NONE);
        dueFault(TWELVE + ";", 60);
        dueFault(TWELVE + "0", NONE);
        dueFault(TWELVE + "d", 59);
        dueFault("l0.10=100;l0.11=100;l0.12=100;l0.13=100;l0.14=100;l0.15=1000", 59);
        dueFault("l0.10=100;l0.11=100;l0.12=100;l0.13=100;l0.14=100;l0.5=1000x", 58);
        dueFault("l0.10=100;l0.11=100;l0.12=100;l0.13=100;l0.14=100;l0.5=100;d", 60);
        TriggerStages x = new TriggerStages();
        layRows(x, 0, 2);
        for (int key = 0; key < 10; key++) {
            x.state(LAY, 0, key, key);
        }
        x.state(LAY, 1, 0, 0);
        x.state(LAY, 1, 10, 5);
        put(x, TWELVE + "0");
        due("twelve statements", x.carryOut(), 12);
        due("all rows are dropped", x.count(0) + x.count(1), 0);
        due("the last one", x.journal(0, 3), 5);
        due("the full pad is empty", x.count(10), 0);
    }

    private static void statementsOfATextAreDone() {
        TriggerStages x = new TriggerStages();
        put(x, "l0.0=0;l3.99=999;a0.0+999");
        due("three statements", x.carryOut(), 3);
        due("the least row", x.value(0, 0), 999);
        due("the greatest row", x.value(3, 99), 999);
        put(x, "d0.0;d3.99;l1.2=3");
        due("three more", x.carryOut(), 3);
        due("one row is left", x.save(0) * 10 + x.value(1, 2), 13);
    }

    private static void aTextWithAFaultStays() {
        TriggerStages x = new TriggerStages();
        due("an empty text", x.carryOut(), BAD_TEXT);
        put(x, "l0.1=1;l0.2=2;");
        due("a text with a fault", x.carryOut(), BAD_TEXT);
        due("none of it is carried out", x.count(0), 0);
        due("it stays", x.count(10), 14);
        due("no change", x.count(11), 0);
        put(x, "d0.1");
        due("what is put behind it mends it", x.carryOut(), 3);
        due("one row", x.count(0), 1);
        due("the pad is empty", x.count(10), 0);
        due("an empty text again", x.carryOut(), BAD_TEXT);
    }

    private static void carriedOutUpToTheFirstThatFails() {
        String[] texts = {"d0.1;l0.1=1;l0.2=2", "l0.1=1;d0.2;l0.2=2", "l0.1=1;l0.2=2;l0.1=3", "l0.1=1;l0.2=2;l0.3=3"};
        for (int done = 0; done < 4; done++) {
            TriggerStages x = new TriggerStages();
            x.state(LAY, 3, 9, 9);
            put(x, texts[done]);
            due("carryOut of " + texts[done], x.carryOut(), done);
            due("rows by " + texts[done], x.count(0), done);
            due("the pad is empty behind " + texts[done], x.count(10), 0);
            due("the journal is of one behind " + texts[done], x.count(5), 1);
            due("the latest that did not fail in " + texts[done], x.journal(0, 2), done == 0 ? 9 : done);
            due("changes behind " + texts[done], x.count(11), 2);
            due("undo of " + texts[done], x.undo(), 1);
            due("no rows without " + texts[done], x.count(0), 0);
            due("the old journal without " + texts[done], x.journal(0, 2), 9);
            due("the pad stays empty", x.count(10), 0);
        }
    }

    private static void eachStatementIsFromOutside() {
        TriggerStages x = new TriggerStages();
        x.set(0, 1);
        make(x, 0, LAY, BEHIND, 5, DO_LAY, 1, 0, 0);
        make(x, 1, LAY, LAST, 0, REFUSE, 0, 0, 0);
        put(x, "l0.1=4;l0.2=5;l0.3=6");
        due("the second one is refused", x.carryOut(), 1);
        due("nothing of it remains", x.count(0) * 10 + x.count(1), 10);
        x.deed(1, DO_LAY, 0, 1, 4);
        put(x, "l0.50=6");
        due("its deed's deed is cut", x.carryOut(), 0);
        x.set(0, 2);
        put(x, "l0.50=6;l0.60=6;l0.70=6");
        due("each begins at the depth 0", x.carryOut(), 3);
        due("with their deeds", x.count(0) * 10 + x.count(1), 73);
        dueJournal("the last one with its deeds", x, new int[][] {{LAY, 0, 70, 6, 0, NONE}, {LAY, 1, 70, 0, 1, 0},
            {LAY, 0, 71, 4, 2, 1}});
        TriggerStages y = new TriggerStages();
        y.set(0, 8);
        layRows(y, 0, 1);
        for (int trigger = 0; trigger < 12; trigger++) {
            make(y, 0, ADD, LAST, 1, DO_ADD, 1, trigger, 0);
            y.state(LAY, 1, trigger, 0);
        }
        put(y, "a0.0+1;a0.0+1;a0.0+1;a0.0+1;a0.0+1;a0.0+1;a0.0+1;a0.0+1");
        due("each begins its own hundred", y.carryOut(), 8);
    }

    private static void carryOutIsOneChange() {
        TriggerStages x = new TriggerStages();
        for (int change = 0; change < 6; change++) {
            x.set(0, change);
        }
        put(x, "l0.1=1;l0.2=2;l0.3=3");
        x.carryOut();
        due("at most six changes", x.count(11), 6);
        due("undo of the text", x.undo(), 5);
        due("none of its rows", x.count(0), 0);
        due("undo of a setting", x.undo(), 4);
        due("DEPTH", x.count(7), 4);
        put(x, "d0.1");
        due("none is carried out", x.carryOut(), 0);
        due("it is a change still", x.count(11), 5);
    }
}
