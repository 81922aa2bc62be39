/** The edges of promises 1 to 12, each in a test of its own. */
public final class ChangesEdgesTest {
    public static void main(String[] args) throws IllegalAccessException {
        Promises.test(ChangesEdgesTest.class, 1, 12);
    }

    private static void greysAre(FlakePainter painter, int first, int... greys) {
        for (int index = 0; index < greys.length; index++) {
            Check.due("greyOf " + (first + index), painter.greyOf(first + index), greys[index]);
        }
    }

    // ---- promise 1: a new object

    private static void p01EachCellIs0() {
        FlakePainter painter = new FlakePainter();
        greysAre(painter, 0, new int[64]);
    }

    private static void p01TheRuleIsFull() {
        Check.due("setRule", new FlakePainter().setRule(FlakePainter.PLAIN), FlakePainter.FULL);
        FlakePainter painter = new FlakePainter();
        painter.setGrey(9, 100);
        Check.due("handedOn, 1 down and 1 back", painter.handedOn(9, 16), 18);
    }

    private static void p01TheThresholdIs128() {
        Check.due("setThreshold", new FlakePainter().setThreshold(1), 128);
    }

    private static void p01WindingIsOff() {
        FlakePainter painter = new FlakePainter();
        Check.due("cellAt(8)", painter.cellAt(8), 8);
        Check.due("turnWinding", painter.turnWinding(), true);
    }

    private static void p01TheTextIsEmpty() {
        FlakePainter painter = new FlakePainter();
        Check.due("textLength", painter.textLength(), 0);
        Check.due("clearText", painter.clearText(), 0);
    }

    private static void p01NothingCanBeUndone() {
        Check.due("undoCount", new FlakePainter().undoCount(), 0);
    }

    private static void p01NothingIsSaved() {
        for (int slot = 0; slot < 2; slot++) {
            int empty = slot;
            Check.badState("loadState " + slot, () -> new FlakePainter().loadState(empty));
        }
    }

    private static void p01AnotherObjectIsLeftAlone() {
        FlakePainter other = new FlakePainter();
        Refused.FULL.make(new FlakePainter());
        Check.due("greySum", other.greySum(), 0);
        Check.due("undoCount", other.undoCount(), 0);
        Check.due("textLength", other.textLength(), 0);
        Check.badState("loadState", () -> other.loadState(0));
        Check.due("setRule", other.setRule(FlakePainter.PLAIN), FlakePainter.FULL);
    }

    // ---- promise 2: setGrey

    private static void p02CellTooSmall() {
        for (int cell : Values.below(0)) {
            Refused.outOfBounds("setGrey(" + cell + ", 9)", painter -> painter.setGrey(cell, 9));
        }
    }

    private static void p02CellTooLarge() {
        for (int cell : Values.above(63)) {
            Refused.outOfBounds("setGrey(" + cell + ", 9)", painter -> painter.setGrey(cell, 9));
        }
    }

    private static void p02GreyTooSmall() {
        for (int grey : Values.below(0)) {
            Refused.badArgument("setGrey(5, " + grey + ")", painter -> painter.setGrey(5, grey));
        }
    }

    private static void p02GreyTooLarge() {
        for (int grey : Values.above(255)) {
            Refused.badArgument("setGrey(5, " + grey + ")", painter -> painter.setGrey(5, grey));
        }
    }

    private static void p02CellAndGreyWrong() {
        Refused.outOfBounds("setGrey(-1, -1)", painter -> painter.setGrey(-1, -1));
        Refused.outOfBounds("setGrey(64, 256)", painter -> painter.setGrey(64, 256));
    }

    private static void p02FirstAndLastCell() {
        FlakePainter painter = new FlakePainter();
        Check.due("setGrey(0, 7)", painter.setGrey(0, 7), 0);
        Check.due("setGrey(63, 8)", painter.setGrey(63, 8), 0);
        Check.due("greyOf(0)", painter.greyOf(0), 7);
        Check.due("greyOf(63)", painter.greyOf(63), 8);
        Check.due("greySum", painter.greySum(), 15);
    }

    private static void p02LeastAndGreatestGrey() {
        FlakePainter painter = new FlakePainter();
        Check.due("setGrey(5, 255)", painter.setGrey(5, 255), 0);
        Check.due("greyOf(5)", painter.greyOf(5), 255);
        Check.due("setGrey(5, 0)", painter.setGrey(5, 0), 255);
        Check.due("greyOf(5) again", painter.greyOf(5), 0);
    }

    private static void p02TheSameGreyIsAChange() {
        FlakePainter painter = new FlakePainter();
        Check.due("setGrey(5, 0)", painter.setGrey(5, 0), 0);
        Check.due("undoCount", painter.undoCount(), 1);
    }

    // ---- promise 3: shadeRow

    private static void p03RowTooSmall() {
        for (int row : Values.below(0)) {
            Refused.outOfBounds("shadeRow(" + row + ", 1, 9)", painter -> painter.shadeRow(row, 1, 9));
        }
    }

    private static void p03RowTooLarge() {
        for (int row : Values.above(7)) {
            Refused.outOfBounds("shadeRow(" + row + ", 1, 9)", painter -> painter.shadeRow(row, 1, 9));
        }
    }

    private static void p03FirstTooSmall() {
        for (int first : Values.below(0)) {
            Refused.badArgument("shadeRow(3, " + first + ", 9)", painter -> painter.shadeRow(3, first, 9));
        }
    }

    private static void p03FirstTooLarge() {
        for (int first : Values.above(255)) {
            Refused.badArgument("shadeRow(3, " + first + ", 9)", painter -> painter.shadeRow(3, first, 9));
        }
    }

    private static void p03LastTooSmall() {
        for (int last : Values.below(0)) {
            Refused.badArgument("shadeRow(3, 9, " + last + ")", painter -> painter.shadeRow(3, 9, last));
        }
    }

    private static void p03LastTooLarge() {
        for (int last : Values.above(255)) {
            Refused.badArgument("shadeRow(3, 9, " + last + ")", painter -> painter.shadeRow(3, 9, last));
        }
    }

    private static void p03RowAndGreyWrong() {
        Refused.outOfBounds("shadeRow(-1, -1, 9)", painter -> painter.shadeRow(-1, -1, 9));
        Refused.outOfBounds("shadeRow(8, 9, 256)", painter -> painter.shadeRow(8, 9, 256));
    }

    private static void p03FirstRow() {
        FlakePainter painter = new FlakePainter();
        Check.due("shadeRow(0, 0, 7)", painter.shadeRow(0, 0, 7), 28);
        greysAre(painter, 0, 0, 1, 2, 3, 4, 5, 6, 7, 0);
        Check.due("greySum", painter.greySum(), 28);
    }

    private static void p03LastRow() {
        FlakePainter painter = new FlakePainter();
        Check.due("shadeRow(7, 7, 0)", painter.shadeRow(7, 7, 0), 28);
        greysAre(painter, 55, 0, 7, 6, 5, 4, 3, 2, 1, 0);
        Check.due("greySum", painter.greySum(), 28);
    }

    private static void p03SteepestRise() {
        FlakePainter painter = new FlakePainter();
        Check.due("shadeRow(2, 0, 255)", painter.shadeRow(2, 0, 255), 1017);
        greysAre(painter, 16, 0, 36, 72, 109, 145, 182, 218, 255);
    }

    private static void p03SteepestFall() {
        FlakePainter painter = new FlakePainter();
        Check.due("shadeRow(2, 255, 0)", painter.shadeRow(2, 255, 0), 1023);
        greysAre(painter, 16, 255, 219, 183, 146, 110, 73, 37, 0);
    }

    private static void p03FirstIsLast() {
        FlakePainter painter = new FlakePainter();
        Check.due("shadeRow(2, 255, 255)", painter.shadeRow(2, 255, 255), 2040);
        greysAre(painter, 16, 255, 255, 255, 255, 255, 255, 255, 255);
        Check.due("shadeRow(2, 0, 0)", painter.shadeRow(2, 0, 0), 0);
        greysAre(painter, 16, 0, 0, 0, 0, 0, 0, 0, 0);
    }

    private static void p03ARiseLessThan1AStepIsCutOff() {
        FlakePainter painter = new FlakePainter();
        Check.due("shadeRow(2, 4, 5)", painter.shadeRow(2, 4, 5), 33);
        greysAre(painter, 16, 4, 4, 4, 4, 4, 4, 4, 5);
    }

    private static void p03AFallLessThan1AStepIsCutOffToward0() {
        FlakePainter painter = new FlakePainter();
        Check.due("shadeRow(2, 5, 4)", painter.shadeRow(2, 5, 4), 39);
        greysAre(painter, 16, 5, 5, 5, 5, 5, 5, 5, 4);
    }

    private static void p03TheSameGreysAreAChange() {
        FlakePainter painter = new FlakePainter();
        painter.shadeRow(2, 0, 0);
        Check.due("undoCount", painter.undoCount(), 1);
    }

    // ---- promise 4: fill

    private static void p04CellTooSmall() {
        for (int cell : Values.below(0)) {
            Refused.outOfBounds("fill(" + cell + ", 2, 2, 9)", painter -> painter.fill(cell, 2, 2, 9));
        }
    }

    private static void p04CellTooLarge() {
        for (int cell : Values.above(63)) {
            Refused.outOfBounds("fill(" + cell + ", 2, 2, 9)", painter -> painter.fill(cell, 2, 2, 9));
        }
    }

    private static void p04HeightTooSmall() {
        for (int height : Values.below(1)) {
            Refused.badArgument("fill(9, " + height + ", 2, 9)", painter -> painter.fill(9, height, 2, 9));
        }
    }

    private static void p04HeightTooLarge() {
        for (int height : Values.above(8)) {
            Refused.badArgument("fill(9, " + height + ", 2, 9)", painter -> painter.fill(9, height, 2, 9));
        }
    }

    private static void p04WidthTooSmall() {
        for (int width : Values.below(1)) {
            Refused.badArgument("fill(9, 2, " + width + ", 9)", painter -> painter.fill(9, 2, width, 9));
        }
    }

    private static void p04WidthTooLarge() {
        for (int width : Values.above(8)) {
            Refused.badArgument("fill(9, 2, " + width + ", 9)", painter -> painter.fill(9, 2, width, 9));
        }
    }

    private static void p04GreyTooSmall() {
        for (int grey : Values.below(0)) {
            Refused.badArgument("fill(9, 2, 2, " + grey + ")", painter -> painter.fill(9, 2, 2, grey));
        }
    }

    private static void p04GreyTooLarge() {
        for (int grey : Values.above(255)) {
            Refused.badArgument("fill(9, 2, 2, " + grey + ")", painter -> painter.fill(9, 2, 2, grey));
        }
    }

    private static void p04CellAndOthersWrong() {
        Refused.outOfBounds("fill(-1, 0, 1, 9)", painter -> painter.fill(-1, 0, 1, 9));
        Refused.outOfBounds("fill(64, 1, 9, 9)", painter -> painter.fill(64, 1, 9, 9));
        Refused.outOfBounds("fill(64, 1, 1, 256)", painter -> painter.fill(64, 1, 1, 256));
    }

    /** The cells that are not 0 are those. */
    private static void filledAre(FlakePainter painter, int grey, int... cells) {
        for (int cell : cells) {
            Check.due("greyOf " + cell, painter.greyOf(cell), grey);
        }
        Check.due("greySum", painter.greySum(), grey * cells.length);
    }

    private static void p04OneCell() {
        FlakePainter painter = new FlakePainter();
        Check.due("fill(27, 1, 1, 9)", painter.fill(27, 1, 1, 9), 1);
        filledAre(painter, 9, 27);
    }

    private static void p04WholePicture() {
        FlakePainter painter = new FlakePainter();
        Check.due("fill(0, 8, 8, 255)", painter.fill(0, 8, 8, 255), 64);
        Check.due("greySum", painter.greySum(), 16320);
    }

    private static void p04CutAtTheRight() {
        FlakePainter painter = new FlakePainter();
        Check.due("fill(14, 2, 8, 9)", painter.fill(14, 2, 8, 9), 4);
        filledAre(painter, 9, 14, 15, 22, 23);
    }

    private static void p04JustUpToTheRight() {
        FlakePainter painter = new FlakePainter();
        Check.due("fill(13, 1, 3, 9)", painter.fill(13, 1, 3, 9), 3);
        filledAre(painter, 9, 13, 14, 15);
    }

    private static void p04CutAtTheBottom() {
        FlakePainter painter = new FlakePainter();
        Check.due("fill(49, 8, 2, 9)", painter.fill(49, 8, 2, 9), 4);
        filledAre(painter, 9, 49, 50, 57, 58);
    }

    private static void p04JustDownToTheBottom() {
        FlakePainter painter = new FlakePainter();
        Check.due("fill(41, 3, 1, 9)", painter.fill(41, 3, 1, 9), 3);
        filledAre(painter, 9, 41, 49, 57);
    }

    private static void p04CutAtTheLastCell() {
        FlakePainter painter = new FlakePainter();
        Check.due("fill(63, 8, 8, 9)", painter.fill(63, 8, 8, 9), 1);
        filledAre(painter, 9, 63);
    }

    private static void p04CellsThatHaveTheGreyDoNotCount() {
        FlakePainter painter = new FlakePainter();
        painter.setGrey(10, 9);
        Check.due("fill(9, 1, 3, 9)", painter.fill(9, 1, 3, 9), 2);
        Check.due("fill(9, 1, 3, 9) again", painter.fill(9, 1, 3, 9), 0);
        Check.due("undoCount", painter.undoCount(), 3);
    }

    // ---- promise 5: invert

    private static void p05LeastBecomesGreatest() {
        FlakePainter painter = new FlakePainter();
        Check.due("invert", painter.invert(), 16320);
        Check.due("greyOf(0)", painter.greyOf(0), 255);
        Check.due("greyOf(63)", painter.greyOf(63), 255);
    }

    private static void p05GreatestBecomesLeast() {
        FlakePainter painter = new FlakePainter();
        painter.fill(0, 8, 8, 255);
        Check.due("invert", painter.invert(), 0);
        Check.due("greyOf(0)", painter.greyOf(0), 0);
    }

    private static void p05NextToTheMiddle() {
        FlakePainter painter = new FlakePainter();
        painter.fill(0, 8, 8, 127);
        Check.due("invert", painter.invert(), 8192);
        Check.due("greyOf(0)", painter.greyOf(0), 128);
    }

    // ---- promise 6: thaw

    private static void p06AmountTooSmall() {
        for (int amount : Values.below(1)) {
            Refused.badArgument("thaw(" + amount + ")", painter -> painter.thaw(amount));
        }
    }

    private static void p06AmountTooLarge() {
        for (int amount : Values.above(255)) {
            Refused.badArgument("thaw(" + amount + ")", painter -> painter.thaw(amount));
        }
    }

    private static void p06LeastAmount() {
        FlakePainter painter = new FlakePainter();
        painter.setGrey(0, 1);
        painter.setGrey(63, 2);
        Check.due("thaw(1)", painter.thaw(1), 63);
        Check.due("greyOf(0)", painter.greyOf(0), 0);
        Check.due("greyOf(63)", painter.greyOf(63), 1);
    }

    private static void p06GreatestAmount() {
        FlakePainter painter = new FlakePainter();
        painter.invert();
        painter.setGrey(9, 254);
        Check.due("thaw(255)", painter.thaw(255), 64);
        Check.due("greySum", painter.greySum(), 0);
    }

    private static void p06GreyNotLessThan0() {
        FlakePainter painter = new FlakePainter();
        painter.shadeRow(0, 7, 14);
        Check.due("thaw(10)", painter.thaw(10), 60);
        greysAre(painter, 0, 0, 0, 0, 0, 1, 2, 3, 4, 0);
    }

    private static void p06NoCellIs0Afterwards() {
        FlakePainter painter = new FlakePainter();
        painter.invert();
        Check.due("thaw(254)", painter.thaw(254), 0);
        Check.due("greySum", painter.greySum(), 64);
    }

    private static void p06NothingToThawIsAChange() {
        FlakePainter painter = new FlakePainter();
        Check.due("thaw(1)", painter.thaw(1), 64);
        Check.due("undoCount", painter.undoCount(), 1);
    }

    // ---- promise 7: setRule

    private static void p07RuleTooSmall() {
        for (int rule : Values.below(0)) {
            Refused.badArgument("setRule(" + rule + ")", painter -> painter.setRule(rule));
        }
    }

    private static void p07RuleTooLarge() {
        for (int rule : Values.above(3)) {
            Refused.badArgument("setRule(" + rule + ")", painter -> painter.setRule(rule));
        }
    }

    private static void p07LeastAndGreatestRule() {
        FlakePainter painter = new FlakePainter();
        Check.due("setRule(0)", painter.setRule(0), FlakePainter.FULL);
        Check.due("setRule(3)", painter.setRule(3), FlakePainter.PLAIN);
        Check.due("setRule(1)", painter.setRule(1), FlakePainter.WIDE);
    }

    private static void p07TheSameRuleIsAChange() {
        FlakePainter painter = new FlakePainter();
        Check.due("setRule(FULL)", painter.setRule(FlakePainter.FULL), FlakePainter.FULL);
        Check.due("undoCount", painter.undoCount(), 1);
    }

    // ---- promise 8: setThreshold

    private static void p08ThresholdTooSmall() {
        for (int threshold : Values.below(1)) {
            Refused.badArgument("setThreshold(" + threshold + ")", painter -> painter.setThreshold(threshold));
        }
    }

    private static void p08ThresholdTooLarge() {
        for (int threshold : Values.above(255)) {
            Refused.badArgument("setThreshold(" + threshold + ")", painter -> painter.setThreshold(threshold));
        }
    }

    private static void p08LeastThreshold() {
        FlakePainter painter = new FlakePainter();
        Check.due("setThreshold(1)", painter.setThreshold(1), 128);
        Check.due("setThreshold(2)", painter.setThreshold(2), 1);
    }

    private static void p08GreatestThreshold() {
        FlakePainter painter = new FlakePainter();
        Check.due("setThreshold(255)", painter.setThreshold(255), 128);
        Check.due("setThreshold(254)", painter.setThreshold(254), 255);
    }

    private static void p08TheSameThresholdIsAChange() {
        FlakePainter painter = new FlakePainter();
        Check.due("setThreshold(128)", painter.setThreshold(128), 128);
        Check.due("undoCount", painter.undoCount(), 1);
    }

    // ---- promise 9: turnWinding

    private static void p09OnIfItIsOff() {
        FlakePainter painter = new FlakePainter();
        Check.due("turnWinding", painter.turnWinding(), true);
        Check.due("cellAt(8)", painter.cellAt(8), 15);
    }

    private static void p09OffIfItIsOn() {
        FlakePainter painter = new FlakePainter();
        painter.turnWinding();
        Check.due("turnWinding", painter.turnWinding(), false);
        Check.due("cellAt(8)", painter.cellAt(8), 8);
        Check.due("undoCount", painter.undoCount(), 2);
    }

    // ---- promise 10: greyOf

    private static void p10CellTooSmall() {
        for (int cell : Values.below(0)) {
            Refused.outOfBounds("greyOf(" + cell + ")", painter -> painter.greyOf(cell));
        }
    }

    private static void p10CellTooLarge() {
        for (int cell : Values.above(63)) {
            Refused.outOfBounds("greyOf(" + cell + ")", painter -> painter.greyOf(cell));
        }
    }

    private static void p10FirstAndLastCell() {
        FlakePainter painter = new FlakePainter();
        painter.setGrey(0, 255);
        painter.setGrey(63, 1);
        Check.due("greyOf(0)", painter.greyOf(0), 255);
        Check.due("greyOf(63)", painter.greyOf(63), 1);
    }

    // ---- promise 11: greySum

    private static void p11LeastSum() {
        Check.due("greySum", new FlakePainter().greySum(), 0);
    }

    private static void p11GreatestSum() {
        FlakePainter painter = new FlakePainter();
        painter.fill(0, 8, 8, 255);
        Check.due("greySum", painter.greySum(), 64 * 255);
    }

    private static void p11FirstAndLastCellCount() {
        FlakePainter painter = new FlakePainter();
        painter.setGrey(0, 100);
        painter.setGrey(63, 20);
        Check.due("greySum", painter.greySum(), 120);
    }

    // ---- promise 12: cellAt

    private static void p12StepTooSmall() {
        for (int step : Values.below(0)) {
            Refused.outOfBounds("cellAt(" + step + ")", painter -> painter.cellAt(step));
        }
    }

    private static void p12StepTooLarge() {
        for (int step : Values.above(63)) {
            Refused.outOfBounds("cellAt(" + step + ")", painter -> painter.cellAt(step));
        }
    }

    private static void p12FirstAndLastStep() {
        FlakePainter painter = new FlakePainter();
        Check.due("cellAt(0)", painter.cellAt(0), 0);
        Check.due("cellAt(63)", painter.cellAt(63), 63);
    }

    private static void p12FirstAndLastStepWinding() {
        FlakePainter painter = new FlakePainter();
        painter.turnWinding();
        Check.due("cellAt(0)", painter.cellAt(0), 0);
        Check.due("cellAt(63)", painter.cellAt(63), 56);
    }

    private static void p12EndsOfEachRowWinding() {
        FlakePainter painter = new FlakePainter();
        painter.turnWinding();
        int[] ends = {0, 7, 15, 8, 16, 23, 31, 24, 32, 39, 47, 40, 48, 55, 63, 56};
        for (int row = 0; row < 8; row++) {
            Check.due("first of row " + row, painter.cellAt(8 * row), ends[2 * row]);
            Check.due("last of row " + row, painter.cellAt(8 * row + 7), ends[2 * row + 1]);
        }
    }
}
