/** Promises 25 to 29: the text. */
public final class TextTest {
    public static void main(String[] args) {
        appendText();
        clearText();
        textLength();
        correctTexts();
        incompleteTexts();
        wrongTexts();
        everyCharacterAfter();
        runText();
        runUntilOneFails();
        runIsOneChange();
        Check.end();
    }

    private static void appendText() {
        FlakePainter painter = new FlakePainter();
        Check.due("P25 one character", painter.appendText('g'), 1);
        Check.due("P25 eight characters", painter.appendText(Check.packed("12=200;i")), 9);
        Check.due("P25 the lowest code", painter.appendText(33), 10);
        Check.due("P25 the highest code", painter.appendText(126), 11);
        Check.due("P25 eight highest codes", painter.appendText(0x7E7E7E7E7E7E7E7EL), 19);
        Check.due("P25 seven lowest codes", painter.appendText(0x21212121212121L), 26);
        Check.due("P25 order of the characters", painter.textError(), 9);
        Check.due("P25 is no change", painter.undoCount(), 0);
        FlakePainter other = new FlakePainter();
        other.appendText(Check.packed("g12=200"));
        Check.due("P25 order, run", other.runText(), 1);
        Check.due("P25 order, grey", other.greyOf(12), 200);
    }

    private static void clearText() {
        FlakePainter painter = new FlakePainter();
        Check.due("P26 clear nothing", painter.clearText(), 0);
        Check.append(painter, "g63=255");
        Check.due("P26 clear seven", painter.clearText(), 7);
        Check.due("P26 length afterwards", painter.textLength(), 0);
        Check.due("P26 error afterwards", painter.textError(), 0);
        Check.due("P26 is no change", painter.undoCount(), 0);
        painter.appendText('w');
        Check.due("P26 nothing is left", painter.textError(), FlakePainter.NONE);
        Check.due("P26 clear one", painter.clearText(), 1);
    }

    private static void textLength() {
        FlakePainter painter = new FlakePainter();
        Check.due("P27 at first", painter.textLength(), 0);
        painter.appendText(Check.packed("abc"));
        Check.due("P27 three", painter.textLength(), 3);
        painter.appendText(Check.packed("abcdefgh"));
        Check.due("P27 eleven", painter.textLength(), 11);
        painter.invert();
        painter.undo();
        Check.due("P27 undo leaves it", painter.textLength(), 11);
    }

    private static void errorIs(String text, int due) {
        FlakePainter painter = new FlakePainter();
        Check.append(painter, text);
        Check.due("P28 textError of " + text, painter.textError(), due);
        Check.due("P28 length of " + text, painter.textLength(), text.length());
    }

    private static void correctTexts() {
        String[] texts = {"i", "w", "t0", "t7", "t10", "t99", "t100", "t999", "r0", "r3", "r4", "r9", "g0=0", "g9=9",
            "g10=10", "g99=99", "g100=100", "g999=999", "g0=255;g63=0", "i;i", "i;w;t1;r2;g3=4", "t0;i;t10;w",
            "r9;r9", "g0=0;i", "g1=10;i", "t999;i", "g7=0;t5"};
        for (String text : texts) {
            errorIs(text, FlakePainter.NONE);
        }
    }

    private static void incompleteTexts() {
        String[] texts = {"", "g", "g0", "g1", "g12", "g123", "g0=", "g1=", "g12=", "g123=", "t", "r", "i;", "w;", "t0;",
            "t12;", "r5;", "g1=2;", "i;g", "i;i;t", "w;r", "g1=23;g4"};
        for (String text : texts) {
            errorIs(text, text.length());
        }
    }

    private static void wrongTexts() {
        errorIs("x", 0);
        errorIs(";", 0);
        errorIs("0", 0);
        errorIs("I", 0);
        errorIs("ii", 1);
        errorIs("i1", 1);
        errorIs("i=", 1);
        errorIs("w0", 1);
        errorIs("i;;", 2);
        errorIs("i;x;", 2);
        errorIs("g=1", 1);
        errorIs("g;", 1);
        errorIs("gg", 1);
        errorIs("g-1=2", 1);
        errorIs("g00=1", 2);
        errorIs("g05=1", 2);
        errorIs("g0;", 2);
        errorIs("g1;", 2);
        errorIs("g12;", 3);
        errorIs("g123;", 4);
        errorIs("g1000=1", 4);
        errorIs("g1==", 3);
        errorIs("g1=;", 3);
        errorIs("g1=00", 4);
        errorIs("g1=05", 4);
        errorIs("g1=1234", 6);
        errorIs("g1=1=", 4);
        errorIs("g1=12i", 5);
        errorIs("t;", 1);
        errorIs("t=1", 1);
        errorIs("t01", 2);
        errorIs("t1000", 4);
        errorIs("t12=", 3);
        errorIs("r;", 1);
        errorIs("r12", 2);
        errorIs("r00", 2);
        errorIs("rx", 1);
        errorIs("t5;x;x", 3);
        errorIs("g1=2;i;t3;r4;y", 13);
    }

    private static void everyCharacterAfter() {
        everyCharacterAfter("", "gitwr", "");
        everyCharacterAfter("i", ";", "");
        everyCharacterAfter("w", ";", "");
        everyCharacterAfter("r", "", "0123456789");
        everyCharacterAfter("r3", ";", "");
        everyCharacterAfter("t", "", "0123456789");
        everyCharacterAfter("t0", ";", "");
        everyCharacterAfter("t1", ";", "0123456789");
        everyCharacterAfter("t12", ";", "0123456789");
        everyCharacterAfter("t123", ";", "");
        everyCharacterAfter("g", "0123456789", "");
        everyCharacterAfter("g0", "=", "");
        everyCharacterAfter("g1", "=0123456789", "");
        everyCharacterAfter("g12", "=0123456789", "");
        everyCharacterAfter("g123", "=", "");
        everyCharacterAfter("g123=", "", "0123456789");
        everyCharacterAfter("g1=0", ";", "");
        everyCharacterAfter("g1=2", ";", "0123456789");
        everyCharacterAfter("g1=20", ";", "0123456789");
        everyCharacterAfter("g1=200", ";", "");
        everyCharacterAfter("i;", "gtr", "iw");
    }

    /** Tries each character after a text; "i" and "w" make a text correct wherever a command may begin. */
    private static void everyCharacterAfter(String before, String going, String ending) {
        for (char character = 33; character <= 126; character++) {
            int length = before.length() + 1;
            int due = length - 1;
            boolean ends = ending.indexOf(character) >= 0
                || before.isEmpty() && (character == 'i' || character == 'w');
            if (ends) {
                due = FlakePainter.NONE;
            } else if (going.indexOf(character) >= 0) {
                due = length;
            }
            errorIs(before + character, due);
        }
    }

    private static void runText() {
        FlakePainter painter = new FlakePainter();
        Check.append(painter, "g5=99;i;t20;w;r1");
        Check.due("P29 five commands", painter.runText(), 5);
        Check.due("P29 grey 5", painter.greyOf(5), 136);
        Check.due("P29 grey 6", painter.greyOf(6), 235);
        Check.due("P29 winding", painter.cellAt(8), 15);
        Check.due("P29 text afterwards", painter.textLength(), 0);
        Check.due("P29 rule", painter.setRule(FlakePainter.FULL), FlakePainter.CROSS);
        Check.append(painter, "g0=0;g63=255;t255;w;w;i");
        Check.due("P29 six commands", painter.runText(), 6);
        Check.due("P29 sum", painter.greySum(), 16320);
        Check.due("P29 winding twice", painter.cellAt(8), 15);
        Check.append(painter, "w");
        Check.due("P29 one command", painter.runText(), 1);
        Check.due("P29 winding off", painter.cellAt(8), 8);
    }

    private static void runUntilOneFails() {
        runs("t0;i", 0, 0);
        runs("t256;i", 0, 0);
        runs("t999;i", 0, 0);
        runs("i;t255;g0=3", 3, 3);
        runs("g64=1;i", 0, 0);
        runs("g999=1;i", 0, 0);
        runs("g63=1;g63=256;i", 1, 1);
        runs("g63=999", 0, 0);
        runs("g63=255;g64=256;i", 1, 255);
        runs("r4;i", 0, 0);
        runs("r9;i", 0, 0);
        runs("r3;r0;i;r4;i", 3, 16320);
        runs("i;t1;g0=0;t0;g1=0;w", 3, 254 * 63);
    }

    private static void runs(String text, int executed, int sum) {
        FlakePainter painter = new FlakePainter();
        Check.append(painter, text);
        Check.due("P29 runText of " + text, painter.runText(), executed);
        Check.due("P29 sum after " + text, painter.greySum(), sum);
        Check.due("P29 text after " + text, painter.textLength(), 0);
        Check.due("P29 changes by " + text, painter.undoCount(), 1);
        Check.due("P29 winding after " + text, painter.cellAt(8), 8);
    }

    private static void runIsOneChange() {
        FlakePainter painter = new FlakePainter();
        painter.shadeRow(3, 0, 255);
        String before = Check.stateOf(painter);
        Check.append(painter, "g5=99;i;t20;w;r1;i;i;i;w");
        Check.due("P29 nine commands", painter.runText(), 9);
        Check.due("P29 one change", painter.undoCount(), 2);
        Check.due("P29 undone", painter.undo(), 1);
        Check.sameState("P29 undone", painter, before);
        Check.append(painter, "t0");
        Check.due("P29 none executed", painter.runText(), 0);
        Check.due("P29 none executed is a change", painter.undoCount(), 2);
        Check.sameState("P29 none executed", painter, before);
    }
}
