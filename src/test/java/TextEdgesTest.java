/** The edges of promises 25 to 29, each in a test of its own. */
public final class TextEdgesTest {
    private static final String FULL_TEXT =
        "g0=1;g1=1;g2=1;g3=1;g4=1;g5=1;g6=1;g7=1;g8=1;g9=1;i;i;i;i;i;i;i;i;t1;r0;g10=10;w";

    public static void main(String[] args) throws IllegalAccessException {
        Promises.test(TextEdgesTest.class, 25, 29);
    }

    private static FlakePainter painterWith(String text) {
        FlakePainter painter = new FlakePainter();
        Check.append(painter, text);
        return painter;
    }

    private static String times(int times, String text) {
        StringBuilder all = new StringBuilder();
        for (int time = 0; time < times; time++) {
            all.append(text);
        }
        return all.toString();
    }

    // ---- promise 25: appendText

    private static void refused(long characters) {
        Refused.badArgument("appendText 0x" + Long.toHexString(characters), painter -> painter.appendText(characters));
    }

    private static void p25NoCharacter() {
        refused(0);
    }

    private static void p25NoCharacterAndBitsAbove() {
        for (int bit = 8; bit < 64; bit++) {
            refused(1L << bit);
        }
        refused(0x6969696969696900L);
    }

    /** A code in each of eight places among characters that are right. */
    private static void refusedInEachPlace(int code) {
        for (int place = 0; place < 8; place++) {
            long others = 0x6969696969696969L & ~(255L << 8 * place);
            refused(others | (long) code << 8 * place);
        }
    }

    private static void p25CodeTooSmall() {
        for (int code : new int[] {1, 9, 10, 13, 31, 32}) {
            refused(code);
            refusedInEachPlace(code);
        }
    }

    private static void p25CodeTooLarge() {
        for (int code : new int[] {127, 128, 161, 233, 254, 255}) {
            refused(code);
            refusedInEachPlace(code);
        }
    }

    private static void p25BitAboveTheEnd() {
        for (int count = 1; count <= 6; count++) {
            long characters = 0x6969696969696969L >>> 8 * (8 - count);
            for (int bit = 8 * (count + 1); bit < 64; bit++) {
                refused(characters | 1L << bit);
            }
        }
    }

    private static void p25CharactersAboveTheEnd() {
        refused(0x6900696969696969L);
        refused(0x6969696969690069L);
        refused(0x0000000000690069L);
    }

    private static void p25LeastAndGreatestCode() {
        for (int count = 1; count <= 8; count++) {
            Check.due("least, " + count, new FlakePainter().appendText(Check.packed(times(count, "!"))), count);
            Check.due("greatest, " + count, new FlakePainter().appendText(Check.packed(times(count, "~"))), count);
        }
    }

    private static void p25OneToEightCharacters() {
        FlakePainter painter = new FlakePainter();
        String text = "g12=34;i";
        int length = 0;
        for (int count = 1; count <= 8; count++) {
            length += count;
            Check.due("count " + count, painter.appendText(Check.packed(text.substring(0, count))), length);
        }
    }

    private static void p25TheLowestBitsAreTheLastCharacter() {
        FlakePainter painter = new FlakePainter();
        painter.appendText((long) 'g' << 24 | '5' << 16 | '=' << 8 | '7');
        Check.due("runText", painter.runText(), 1);
        Check.due("greyOf(5)", painter.greyOf(5), 7);
    }

    private static void p25JustFull() {
        FlakePainter painter = painterWith(times(9, "i;i;i;i;"));
        Check.due("80 by eight more", painter.appendText(Check.packed("i;i;i;ww")), 80);
        FlakePainter other = painterWith(times(9, "i;i;i;i;") + "i;i;i;i");
        Check.due("80 by one more", other.appendText(';'), 80);
    }

    /** A text of a length, and more characters than there is room for. */
    private static void tooLong(int length, String more) {
        Refused.badState(length + " and " + more.length(), painter -> Check.append(painter, FULL_TEXT.substring(0, length)),
            painter -> painter.appendText(Check.packed(more)));
    }

    private static void p25OneTooMany() {
        tooLong(80, "i");
        tooLong(79, "w;");
        tooLong(78, ";w;");
        tooLong(73, "t1;i;i;i");
    }

    private static void p25MoreThanOneTooMany() {
        tooLong(80, "i;i;i;i;");
        tooLong(80, "ii");
        tooLong(79, "w;i;i;i;");
        tooLong(74, "1;g9=9;w");
    }

    private static void p25WrongCharactersAndTooLong() {
        Refused.Calls full = painter -> Check.append(painter, FULL_TEXT);
        for (long characters : new long[] {0, 32, 127, 0x6920L, 0x690069L, 0x6969696969696920L, -1}) {
            Refused.after("appendText 0x" + Long.toHexString(characters), full,
                painter -> painter.appendText(characters), IllegalArgumentException.class);
        }
    }

    private static void p25RoomAgain() {
        FlakePainter painter = painterWith(FULL_TEXT);
        painter.clearText();
        Check.due("after clearText", painter.appendText(Check.packed("i;i;i;i;")), 8);
        FlakePainter other = painterWith(FULL_TEXT);
        other.runText();
        Check.due("after runText", other.appendText('i'), 1);
    }

    private static void p25IsNoChange() {
        Check.due("undoCount", painterWith(FULL_TEXT).undoCount(), 0);
    }

    // ---- promise 26: clearText

    private static void p26Empty() {
        FlakePainter painter = new FlakePainter();
        Check.due("clearText", painter.clearText(), 0);
        Check.due("textLength", painter.textLength(), 0);
    }

    private static void p26Full() {
        FlakePainter painter = painterWith(FULL_TEXT);
        Check.due("clearText", painter.clearText(), 80);
        Check.due("textLength", painter.textLength(), 0);
        Check.due("clearText again", painter.clearText(), 0);
    }

    private static void p26NothingOfTheTextIsLeft() {
        FlakePainter painter = painterWith("g12=34;i");
        painter.clearText();
        Check.due("textError", painter.textError(), 0);
        painter.appendText('t');
        Check.due("textError of t", painter.textError(), 1);
    }

    private static void p26NoDigitOfTheTextIsLeft() {
        FlakePainter painter = painterWith("t199");
        painter.clearText();
        painter.invert();
        Check.append(painter, "t1");
        painter.runText();
        Check.due("greyOf(0)", painter.greyOf(0), 254);
    }

    private static void p26AWrongTextToo() {
        FlakePainter painter = painterWith("x;;");
        Check.due("clearText", painter.clearText(), 3);
    }

    private static void p26IsNoChange() {
        FlakePainter painter = painterWith("i");
        painter.clearText();
        Check.due("undoCount", painter.undoCount(), 0);
    }

    // ---- promise 27: textLength

    private static void p27Empty() {
        Check.due("textLength", new FlakePainter().textLength(), 0);
    }

    private static void p27Full() {
        Check.due("textLength", painterWith(FULL_TEXT).textLength(), 80);
    }

    private static void p27EmptyAgain() {
        FlakePainter painter = painterWith("t0;i");
        painter.runText();
        Check.due("textLength", painter.textLength(), 0);
    }

    // ---- promise 28: textError

    private static void errorIs(String text, int due) {
        Check.due("textError of " + text, painterWith(text).textError(), due);
    }

    private static void incomplete(String... texts) {
        for (String text : texts) {
            errorIs(text, text.length());
        }
    }

    private static void correct(String... texts) {
        for (String text : texts) {
            errorIs(text, FlakePainter.NONE);
        }
    }

    private static void p28Empty() {
        incomplete("");
    }

    private static void p28CommandIncomplete() {
        incomplete("g", "g0", "g5", "g63", "g999", "g0=", "g5=", "g63=", "g999=", "t", "r");
    }

    private static void p28LaterCommandIncomplete() {
        incomplete("i;g", "i;g0", "i;g63", "i;g63=", "w;t", "t1;r");
    }

    private static void p28NoCommandAfterTheSemicolon() {
        incomplete("i;", "w;", "g1=2;", "g1=0;", "g1=255;", "t0;", "t10;", "t100;", "r3;", "i;i;");
    }

    private static void p28NoCommandBeforeTheSemicolon() {
        errorIs(";", 0);
        errorIs(";i", 0);
        errorIs("i;;", 2);
        errorIs("i;;i", 2);
    }

    private static void p28NoSemicolon() {
        errorIs("ii", 1);
        errorIs("iw", 1);
        errorIs("wg1=2", 1);
        errorIs("r1r2", 2);
        errorIs("t5i", 2);
        errorIs("t500i", 4);
        errorIs("g1=2g1=2", 4);
        errorIs("g1=200i", 6);
    }

    private static void p28Least() {
        correct("g0=0", "t0", "r0");
    }

    private static void p28Greatest() {
        correct("g999=999", "t999", "r9");
    }

    private static void p28NumbersThatCannotBeCarriedOutAreNoError() {
        correct("g64=0", "g0=256", "t256", "r4");
    }

    private static void p28FourDigits() {
        errorIs("g1000=1", 4);
        errorIs("g9999", 4);
        errorIs("g1=1000", 6);
        errorIs("t1000", 4);
        errorIs("t2550", 4);
    }

    private static void p28RuleOfTwoDigits() {
        errorIs("r10", 2);
        errorIs("r00", 2);
        errorIs("r03", 2);
    }

    private static void p28LeadingZero() {
        errorIs("g00=1", 2);
        errorIs("g01=1", 2);
        errorIs("g1=00", 4);
        errorIs("g1=01", 4);
        errorIs("t00", 2);
        errorIs("t01", 2);
        errorIs("t05;i", 2);
    }

    private static void p28ZerosThatDoNotLead() {
        correct("g10=100", "g100=10", "g900=500", "t10", "t100", "t101");
    }

    private static void p28NoNumber() {
        errorIs("g=1", 1);
        errorIs("g;", 1);
        errorIs("g1=;", 3);
        errorIs("g1==1", 3);
        errorIs("t;", 1);
        errorIs("t=1", 1);
        errorIs("r;", 1);
        errorIs("r=1", 1);
        errorIs("t-1", 1);
        errorIs("g+1=1", 1);
        errorIs("r-1", 1);
    }

    private static void p28NextToTheDigits() {
        errorIs("g/=1", 1);
        errorIs("g:=1", 1);
        errorIs("g1/=1", 2);
        errorIs("g1:=1", 2);
        errorIs("g1=/", 3);
        errorIs("g1=:", 3);
        errorIs("t1/", 2);
        errorIs("t1:", 2);
        errorIs("r/", 1);
        errorIs("r:", 1);
    }

    private static void p28NoEqualsSign() {
        errorIs("g1", 2);
        errorIs("g1;", 2);
        errorIs("g0;", 2);
        errorIs("g12;i", 3);
        errorIs("g123;i", 4);
        errorIs("i1", 1);
        errorIs("w=", 1);
    }

    private static void p28NoSuchCommand() {
        for (char character = 33; character <= 126; character++) {
            if ("gitwr".indexOf(character) < 0) {
                errorIs("" + character, 0);
                errorIs("i;" + character, 2);
            }
        }
    }

    private static void p28TheFirstOfSeveralErrors() {
        errorIs("xx", 0);
        errorIs("g1=x;x", 3);
        errorIs("i;t00;r10;", 4);
        errorIs("x;i", 0);
    }

    private static void p28AnErrorInAnIncompleteText() {
        errorIs("ix;", 1);
        errorIs("t01;g", 2);
    }

    private static void p28FullAndCorrect() {
        correct(FULL_TEXT);
        correct(times(11, "g10=10;") + "t10");
    }

    private static void p28FullAndIncomplete() {
        incomplete(times(40, "i;"), FULL_TEXT.substring(0, 79) + "g", times(10, "g63=255;"));
    }

    private static void p28FullAndWrongAtTheLastCharacter() {
        errorIs(FULL_TEXT.substring(0, 79) + ";", 79);
        errorIs(FULL_TEXT.substring(0, 79) + "x", 79);
    }

    // ---- promise 29: runText

    private static void p29Empty() {
        for (Refused.Calls before : new Refused.Calls[] {Refused.NEW, Refused.USED, Refused.FULL}) {
            Refused.badState("no text", painter -> {
                before.make(painter);
                painter.clearText();
            }, FlakePainter::runText);
        }
    }

    private static void refusedTexts(String... texts) {
        for (String text : texts) {
            for (Refused.Calls before : new Refused.Calls[] {Refused.NEW, Refused.USED, Refused.FULL}) {
                Refused.badState(text, painter -> {
                    before.make(painter);
                    painter.clearText();
                    Check.append(painter, text);
                }, FlakePainter::runText);
            }
        }
    }

    private static void p29Incomplete() {
        refusedTexts("i;", "g", "g1", "g1=", "i;t", "i;r", times(40, "i;"));
    }

    /** Nothing is executed, not even what stands before the error. */
    private static void p29Wrong() {
        refusedTexts("x", ";", "i;x", "i;i;;", "g1=1;t00", "w;r10", "t1x", FULL_TEXT.substring(0, 79) + "x");
    }

    private static void p29OneCommand() {
        for (String text : new String[] {"i", "w", "t1", "r0", "g0=0"}) {
            FlakePainter painter = painterWith(text);
            Check.due("runText of " + text, painter.runText(), 1);
            Check.due("undoCount after " + text, painter.undoCount(), 1);
        }
    }

    private static void p29FullText() {
        FlakePainter painter = painterWith(FULL_TEXT);
        Check.due("runText", painter.runText(), 22);
        Check.due("textLength", painter.textLength(), 0);
        Check.due("greySum", painter.greySum(), 10);
        Check.due("cellAt(8)", painter.cellAt(8), 15);
        Check.due("undoCount", painter.undoCount(), 1);
        Check.due("setRule", painter.setRule(FlakePainter.FULL), FlakePainter.PLAIN);
        FlakePainter other = painterWith(times(39, "w;") + "w");
        Check.due("39 and 1 commands", other.runText(), 40);
    }

    private static void p29FullTextThatEndsWithANumber() {
        FlakePainter painter = painterWith(times(11, "g10=90;") + "t10");
        Check.due("textLength", painter.textLength(), 80);
        Check.due("runText", painter.runText(), 12);
        Check.due("greyOf(10)", painter.greyOf(10), 80);
    }

    private static void p29NothingIsLeftOfATextThatWasRun() {
        FlakePainter painter = painterWith("t0;i;g0=199");
        painter.runText();
        painter.invert();
        Check.append(painter, "g0=1");
        Check.due("runText", painter.runText(), 1);
        Check.due("greyOf(0)", painter.greyOf(0), 1);
        Check.due("greySum", painter.greySum(), 63 * 255 + 1);
    }

    /** Executes a text on a new object; the grey of cell 0 tells what was executed. */
    private static void runs(String text, int executed, int grey) {
        FlakePainter painter = painterWith(text);
        Check.due("runText of " + text, painter.runText(), executed);
        Check.due("greyOf(0) after " + text, painter.greyOf(0), grey);
        Check.due("textLength after " + text, painter.textLength(), 0);
        Check.due("undoCount after " + text, painter.undoCount(), 1);
    }

    private static void p29CellTooLarge() {
        runs("g63=1;i", 2, 255);
        runs("g64=1;i", 0, 0);
        runs("g65=1;i", 0, 0);
        runs("g256=1;i", 0, 0);
        runs("g999=1;i", 0, 0);
    }

    private static void p29LeastCell() {
        runs("g0=9", 1, 9);
    }

    private static void p29GreyTooLarge() {
        runs("g0=255;i", 2, 0);
        runs("g0=256;i", 0, 0);
        runs("g0=257;i", 0, 0);
        runs("g0=999;i", 0, 0);
    }

    private static void p29LeastGrey() {
        runs("g0=0;i", 2, 255);
    }

    private static void p29CellAndGreyTooLarge() {
        runs("g64=256;i", 0, 0);
    }

    private static void p29AmountTooSmall() {
        runs("t1;i", 2, 255);
        runs("t0;i", 0, 0);
    }

    private static void p29AmountTooLarge() {
        runs("t255;i", 2, 255);
        runs("t256;i", 0, 0);
        runs("t999;i", 0, 0);
    }

    private static void p29RuleTooLarge() {
        runs("r0;i", 2, 255);
        runs("r3;i", 2, 255);
        runs("r4;i", 0, 0);
        runs("r9;i", 0, 0);
    }

    private static void p29TheFirstOneFails() {
        FlakePainter painter = painterWith("t0;i;w;r0;g5=5");
        Check.due("runText", painter.runText(), 0);
        Check.due("textLength", painter.textLength(), 0);
        Check.due("greySum", painter.greySum(), 0);
        Check.due("cellAt(8)", painter.cellAt(8), 8);
        Check.due("undoCount", painter.undoCount(), 1);
        Check.due("undo", painter.undo(), 0);
        Check.due("setRule", painter.setRule(FlakePainter.PLAIN), FlakePainter.FULL);
    }

    private static void p29TheLastOneFails() {
        runs("g0=7;w;i;r4", 3, 248);
    }

    /** What comes before the command that fails stays executed, what comes after it is not. */
    private static void p29OneInTheMiddleFails() {
        runs("g0=7;g64=0;g0=9;i", 1, 7);
        runs("i;t10;t0;t10;i", 2, 245);
        runs("w;i;r9;w;g0=1", 2, 255);
    }

    private static void p29IsOneChange() {
        FlakePainter painter = painterWith("i;t5;w;r1;g3=3;g64=1;i");
        painter.setGrey(9, 9);
        Check.due("runText", painter.runText(), 5);
        Check.due("undoCount", painter.undoCount(), 2);
        Check.due("undo", painter.undo(), 1);
        Check.due("greySum", painter.greySum(), 9);
        Check.due("greyOf(9)", painter.greyOf(9), 9);
        Check.due("cellAt(8)", painter.cellAt(8), 8);
        Check.due("setRule", painter.setRule(FlakePainter.PLAIN), FlakePainter.FULL);
    }

    private static void p29OneStateIsDroppedWhenSixAreKept() {
        FlakePainter painter = new FlakePainter();
        for (int grey = 1; grey <= 6; grey++) {
            painter.setGrey(0, grey);
        }
        Check.append(painter, "i;i;t1;w;w;g0=99");
        painter.runText();
        Check.due("undoCount", painter.undoCount(), 6);
        for (int grey = 6; grey >= 1; grey--) {
            painter.undo();
            Check.due("greyOf(0)", painter.greyOf(0), grey);
        }
        Check.due("undoCount afterwards", painter.undoCount(), 0);
    }
}
