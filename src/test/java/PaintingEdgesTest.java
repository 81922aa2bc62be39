/** The edges of promises 13 to 19, each in a test of its own. */
public final class PaintingEdgesTest {
    private static final int PLAIN = FlakePainter.PLAIN, CROSS = FlakePainter.CROSS;
    private static final int FULL = FlakePainter.FULL, WIDE = FlakePainter.WIDE;

    public static void main(String[] args) throws IllegalAccessException {
        Promises.test(PaintingEdgesTest.class, 13, 19);
    }

    /** Pairs of a cell and its grey. */
    private static FlakePainter painterWith(int rule, int threshold, int... pairs) {
        FlakePainter painter = new FlakePainter();
        painter.setRule(rule);
        painter.setThreshold(threshold);
        for (int index = 0; index < pairs.length; index += 2) {
            painter.setGrey(pairs[index], pairs[index + 1]);
        }
        return painter;
    }

    private static FlakePainter winding(FlakePainter painter) {
        painter.turnWinding();
        return painter;
    }

    // ---- promises 13 to 15: one edge each, asked in three ways

    private interface Way {
        void dueFlakes(String what, FlakePainter painter, long mask);
    }

    private static final Way HANDING_ON = (what, painter, mask) -> Check.due(what, painter.flakes(), mask);
    private static final Way COLLECTING = (what, painter, mask) -> Check.due(what, painter.flakesByCollecting(), mask);
    private static final Way COUNT = (what, painter, mask) -> Check.due(what, painter.flakeCount(), Long.bitCount(mask));

    private static void noFlakes(Way way) {
        way.dueFlakes("a new picture", new FlakePainter(), 0);
        way.dueFlakes("a new picture, least threshold", painterWith(WIDE, 1), 0);
    }

    private static void allFlakes(Way way) {
        for (int rule = 0; rule < 4; rule++) {
            FlakePainter painter = painterWith(rule, 255);
            painter.invert();
            way.dueFlakes("all, rule " + rule, painter, -1L);
            way.dueFlakes("all winding, rule " + rule, winding(painter), -1L);
        }
    }

    private static void firstAndLastCell(Way way) {
        way.dueFlakes("first", painterWith(PLAIN, 128, 0, 255), 1L);
        way.dueFlakes("last", painterWith(PLAIN, 128, 63, 255), Long.MIN_VALUE);
        way.dueFlakes("cells 31 and 32", painterWith(PLAIN, 128, 31, 255, 32, 255), 3L << 31);
    }

    private static void valueAtTheThreshold(Way way) {
        for (int threshold = 1; threshold <= 255; threshold++) {
            way.dueFlakes("at " + threshold, painterWith(PLAIN, threshold, 63, threshold), Long.MIN_VALUE);
        }
    }

    private static void valueBelowTheThreshold(Way way) {
        for (int threshold = 1; threshold <= 255; threshold++) {
            way.dueFlakes("below " + threshold, painterWith(PLAIN, threshold, 63, threshold - 1), 0);
        }
    }

    /** The first cell hands on 200 - 255 = -55. */
    private static void valueBelow0(Way way) {
        way.dueFlakes("-1", painterWith(PLAIN, 1, 0, 200, 1, 54), 1L);
        way.dueFlakes("0", painterWith(PLAIN, 1, 0, 200, 1, 55), 1L);
        way.dueFlakes("1", painterWith(PLAIN, 1, 0, 200, 1, 56), 3L);
    }

    /** 200 and 200 make 400, of which 145 are handed on. */
    private static void valueAbove255(Way way) {
        way.dueFlakes("145 and 109", painterWith(PLAIN, 255, 0, 200, 1, 200, 2, 109), 2L);
        way.dueFlakes("145 and 110", painterWith(PLAIN, 255, 0, 200, 1, 200, 2, 110), 6L);
    }

    private static void nothingGoesOnInTheNextRow(Way way) {
        way.dueFlakes("8 after 7", painterWith(PLAIN, 128, 7, 127, 8, 1), 0);
        way.dueFlakes("15 after 7", winding(painterWith(PLAIN, 128, 7, 127, 15, 1)), 0);
        way.dueFlakes("16 after 8", winding(painterWith(PLAIN, 128, 8, 127, 16, 1)), 0);
        way.dueFlakes("0 after 63", painterWith(PLAIN, 128, 63, 127, 0, 1), 0);
    }

    /** Of two cells with 64 the one that is painted later gets a flake. */
    private static void oddRowsWindTheOtherWay(Way way) {
        for (int row = 0; row < 8; row++) {
            long left = 1L << 8 * row + 3;
            long right = 1L << 8 * row + 4;
            FlakePainter painter = painterWith(PLAIN, 128, 8 * row + 3, 64, 8 * row + 4, 64);
            way.dueFlakes("row " + row, painter, right);
            way.dueFlakes("winding, row " + row, winding(painter), row % 2 == 1 ? left : right);
        }
    }

    /** -55 times 8, divided by 16, is -27 for the cell below and leaves -28 for the one ahead. */
    private static void sharesBelow0AreCutOffToward0(Way way) {
        way.dueFlakes("below, 1", painterWith(CROSS, 1, 0, 200, 8, 28), 1L | 1L << 8);
        way.dueFlakes("below, 0", painterWith(CROSS, 1, 0, 200, 8, 27), 1L);
        way.dueFlakes("ahead, 1", painterWith(CROSS, 1, 0, 200, 1, 29), 3L);
        way.dueFlakes("ahead, 0", painterWith(CROSS, 1, 0, 200, 1, 28), 1L);
    }

    /** Pictures whose border alone is grey, against the model. */
    private static void nothingComesBackFromOutside(Way way) {
        for (int rule = 0; rule < 4; rule++) {
            for (int threshold = 5; threshold <= 255; threshold += 25) {
                FlakePainter painter = painterWith(rule, threshold);
                painter.fill(0, 8, 8, 160);
                painter.fill(9, 6, 6, 0);
                way.dueFlakes("rule " + rule + " threshold " + threshold, painter, model(painter, rule, threshold, false).mask());
                way.dueFlakes("winding, rule " + rule + " threshold " + threshold, winding(painter),
                    model(painter, rule, threshold, true).mask());
            }
        }
    }

    private static Model.Painted model(FlakePainter painter, int rule, int threshold, boolean winding) {
        int[] greys = new int[64];
        for (int cell = 0; cell < 64; cell++) {
            greys[cell] = painter.greyOf(cell);
        }
        return Model.paint(new Model.State(greys, rule, threshold, winding));
    }

    private static void p13NoFlakes() {
        noFlakes(HANDING_ON);
    }

    private static void p13AllFlakes() {
        allFlakes(HANDING_ON);
    }

    private static void p13FirstAndLastCell() {
        firstAndLastCell(HANDING_ON);
    }

    private static void p13ValueAtTheThreshold() {
        valueAtTheThreshold(HANDING_ON);
    }

    private static void p13ValueBelowTheThreshold() {
        valueBelowTheThreshold(HANDING_ON);
    }

    private static void p13ValueBelow0() {
        valueBelow0(HANDING_ON);
    }

    private static void p13ValueAbove255() {
        valueAbove255(HANDING_ON);
    }

    private static void p13NothingGoesOnInTheNextRow() {
        nothingGoesOnInTheNextRow(HANDING_ON);
    }

    private static void p13OddRowsWindTheOtherWay() {
        oddRowsWindTheOtherWay(HANDING_ON);
    }

    private static void p13SharesBelow0AreCutOffToward0() {
        sharesBelow0AreCutOffToward0(HANDING_ON);
    }

    private static void p13NothingComesBackFromOutside() {
        nothingComesBackFromOutside(HANDING_ON);
    }

    private static void p14NoFlakes() {
        noFlakes(COLLECTING);
    }

    private static void p14AllFlakes() {
        allFlakes(COLLECTING);
    }

    private static void p14FirstAndLastCell() {
        firstAndLastCell(COLLECTING);
    }

    private static void p14ValueAtTheThreshold() {
        valueAtTheThreshold(COLLECTING);
    }

    private static void p14ValueBelowTheThreshold() {
        valueBelowTheThreshold(COLLECTING);
    }

    private static void p14ValueBelow0() {
        valueBelow0(COLLECTING);
    }

    private static void p14ValueAbove255() {
        valueAbove255(COLLECTING);
    }

    private static void p14NothingGoesOnInTheNextRow() {
        nothingGoesOnInTheNextRow(COLLECTING);
    }

    private static void p14OddRowsWindTheOtherWay() {
        oddRowsWindTheOtherWay(COLLECTING);
    }

    private static void p14SharesBelow0AreCutOffToward0() {
        sharesBelow0AreCutOffToward0(COLLECTING);
    }

    private static void p14NothingComesBackFromOutside() {
        nothingComesBackFromOutside(COLLECTING);
    }

    private static void p15NoFlakes() {
        noFlakes(COUNT);
    }

    private static void p15AllFlakes() {
        allFlakes(COUNT);
    }

    private static void p15FirstAndLastCell() {
        firstAndLastCell(COUNT);
    }

    private static void p15ValueAtTheThreshold() {
        valueAtTheThreshold(COUNT);
    }

    private static void p15ValueBelowTheThreshold() {
        valueBelowTheThreshold(COUNT);
    }

    // ---- promise 16: valueOf

    private static void p16CellTooSmall() {
        for (int cell : Values.below(0)) {
            Refused.outOfBounds("valueOf(" + cell + ")", painter -> painter.valueOf(cell));
        }
    }

    private static void p16CellTooLarge() {
        for (int cell : Values.above(63)) {
            Refused.outOfBounds("valueOf(" + cell + ")", painter -> painter.valueOf(cell));
        }
    }

    private static void p16FirstAndLastCell() {
        FlakePainter painter = painterWith(PLAIN, 128, 0, 77, 62, 50, 63, 11);
        Check.due("valueOf(0)", painter.valueOf(0), 77);
        Check.due("valueOf(63)", painter.valueOf(63), 61);
    }

    private static void p16ValueBelow0() {
        FlakePainter painter = painterWith(PLAIN, 1, 0, 1);
        for (int cell = 1; cell < 8; cell++) {
            Check.due("valueOf " + cell, painter.valueOf(cell), -254);
        }
    }

    private static void p16ValueAbove255() {
        FlakePainter painter = painterWith(PLAIN, 255, 0, 254, 1, 255, 2, 255);
        Check.due("valueOf(1)", painter.valueOf(1), 509);
        Check.due("valueOf(2)", painter.valueOf(2), 509);
    }

    private static void p16NothingGoesOnInTheNextRow() {
        Check.due("8 after 7", painterWith(PLAIN, 128, 7, 100).valueOf(8), 0);
        Check.due("15 after 7, winding", winding(painterWith(PLAIN, 128, 7, 100)).valueOf(15), 0);
        Check.due("16 after 8, winding", winding(painterWith(PLAIN, 128, 8, 100)).valueOf(16), 0);
        Check.due("7 after 8, winding", winding(painterWith(PLAIN, 128, 8, 100)).valueOf(7), 0);
    }

    private static void p16NothingComesBackFromOutside() {
        for (int rule = 0; rule < 4; rule++) {
            FlakePainter painter = painterWith(rule, 90);
            painter.fill(0, 8, 8, 160);
            painter.fill(9, 6, 6, 0);
            for (boolean winding : new boolean[] {false, true}) {
                Model.Painted painted = model(painter, rule, 90, winding);
                for (int cell = 0; cell < 64; cell++) {
                    Check.due("rule " + rule + " winding " + winding + " valueOf " + cell, painter.valueOf(cell), painted.values[cell]);
                }
                painter.turnWinding();
            }
        }
    }

    // ---- promise 17: errorOf

    private static void p17CellTooSmall() {
        for (int cell : Values.below(0)) {
            Refused.outOfBounds("errorOf(" + cell + ")", painter -> painter.errorOf(cell));
        }
    }

    private static void p17CellTooLarge() {
        for (int cell : Values.above(63)) {
            Refused.outOfBounds("errorOf(" + cell + ")", painter -> painter.errorOf(cell));
        }
    }

    private static void p17FirstAndLastCell() {
        FlakePainter painter = painterWith(PLAIN, 128, 0, 77, 63, 200);
        Check.due("errorOf(0)", painter.errorOf(0), 77);
        Check.due("errorOf(63)", painter.errorOf(63), -55);
    }

    private static void p17ValueAtTheThreshold() {
        for (int threshold = 1; threshold <= 255; threshold++) {
            Check.due("at " + threshold, painterWith(FULL, threshold, 0, threshold).errorOf(0), threshold - 255);
        }
    }

    private static void p17ValueBelowTheThreshold() {
        for (int threshold = 1; threshold <= 255; threshold++) {
            Check.due("below " + threshold, painterWith(FULL, threshold, 0, threshold - 1).errorOf(0), threshold - 1);
        }
    }

    private static void p17ValueBelow0() {
        Check.due("errorOf(1)", painterWith(PLAIN, 1, 0, 200, 1, 54).errorOf(1), -1);
    }

    private static void p17ValueAbove255() {
        Check.due("errorOf(1)", painterWith(PLAIN, 255, 0, 200, 1, 200).errorOf(1), 145);
    }

    // ---- promise 18: lost

    private static void p18NothingIsLost() {
        Check.due("a new picture", new FlakePainter().lost(), 0);
        FlakePainter painter = new FlakePainter();
        painter.invert();
        Check.due("all flakes", painter.lost(), 0);
    }

    private static void p18AtTheEndOfEachRow() {
        for (int row = 0; row < 8; row++) {
            FlakePainter painter = painterWith(PLAIN, 128, 8 * row, 30, 8 * row + 7, 70);
            Check.due("row " + row, painter.lost(), 100);
            Check.due("winding, row " + row, winding(painter).lost(), 100);
        }
    }

    private static void p18AtTheCellThatIsPaintedLast() {
        for (int rule = 0; rule < 4; rule++) {
            Check.due("rule " + rule, painterWith(rule, 128, 63, 101).lost(), 101);
            Check.due("winding, rule " + rule, winding(painterWith(rule, 128, 56, 101)).lost(), 101);
        }
    }

    private static void p18LessThan0() {
        for (int rule = 0; rule < 4; rule++) {
            Check.due("rule " + rule, painterWith(rule, 128, 63, 200).lost(), -55);
            Check.due("winding, rule " + rule, winding(painterWith(rule, 128, 56, 200)).lost(), -55);
        }
    }

    private static void p18OppositeLossesMakeNothing() {
        Check.due("55 and -55", painterWith(PLAIN, 128, 7, 55, 63, 200).lost(), 0);
    }

    /** In however small parts a grey is handed on, all of it is lost in the end, and once. */
    private static void p18NothingIsLostTwice() {
        for (int rule = 0; rule < 4; rule++) {
            for (int cell = 0; cell < 64; cell++) {
                FlakePainter painter = painterWith(rule, 255, cell, 254);
                Check.due("rule " + rule + " cell " + cell, painter.lost(), 254);
                Check.due("winding, rule " + rule + " cell " + cell, winding(painter).lost(), 254);
            }
        }
    }

    // ---- promise 19: handedOn

    private static void p19CellTooSmall() {
        for (int cell : Values.below(0)) {
            Refused.outOfBounds("handedOn(" + cell + ", 9)", painter -> painter.handedOn(cell, 9));
        }
    }

    private static void p19CellTooLarge() {
        for (int cell : Values.above(63)) {
            Refused.outOfBounds("handedOn(" + cell + ", 9)", painter -> painter.handedOn(cell, 9));
        }
    }

    private static void p19OtherTooSmall() {
        for (int other : Values.below(0)) {
            Refused.outOfBounds("handedOn(9, " + other + ")", painter -> painter.handedOn(9, other));
        }
    }

    private static void p19OtherTooLarge() {
        for (int other : Values.above(63)) {
            Refused.outOfBounds("handedOn(9, " + other + ")", painter -> painter.handedOn(9, other));
        }
    }

    /** A neighbour outside is no cell that could be asked for: what goes there is lost. */
    private static void p19OtherOutsideThatWouldBeANeighbour() {
        Refused.outOfBounds("handedOn(63, 64)", painter -> painter.handedOn(63, 64));
        Refused.outOfBounds("handedOn(56, 64)", painter -> painter.handedOn(56, 64));
        Refused.outOfBounds("handedOn(0, -1)", painter -> painter.handedOn(0, -1));
    }

    private static void p19BothWrong() {
        Refused.outOfBounds("handedOn(-1, 64)", painter -> painter.handedOn(-1, 64));
        Refused.outOfBounds("handedOn(-1, -1)", painter -> painter.handedOn(-1, -1));
    }

    /** Pairs of a cell and what it gets of a cell's error; 0 is due for all that are not told. */
    private static void handsOn(FlakePainter painter, int cell, int... pairs) {
        int[] due = new int[64];
        for (int index = 0; index < pairs.length; index += 2) {
            due[pairs[index]] = pairs[index + 1];
        }
        for (int other = 0; other < 64; other++) {
            Check.due("handedOn(" + cell + ", " + other + ")", painter.handedOn(cell, other), due[other]);
        }
    }

    private static FlakePainter alone(int rule, int cell) {
        return painterWith(rule, 128, cell, 100);
    }

    private static void p19NothingToItself() {
        for (int cell = 0; cell < 64; cell++) {
            Check.due("cell " + cell, alone(FULL, cell).handedOn(cell, cell), 0);
        }
    }

    private static void p19NothingToAnEarlierCell() {
        for (int other = 0; other < 36; other++) {
            Check.due("other " + other, alone(WIDE, 36).handedOn(36, other), 0);
        }
    }

    private static void p19PlainAtTheEdges() {
        handsOn(alone(PLAIN, 0), 0, 1, 100);
        handsOn(alone(PLAIN, 7), 7);
        handsOn(alone(PLAIN, 62), 62, 63, 100);
        handsOn(alone(PLAIN, 63), 63);
        handsOn(winding(alone(PLAIN, 7)), 7);
        handsOn(winding(alone(PLAIN, 15)), 15, 14, 100);
        handsOn(winding(alone(PLAIN, 9)), 9, 8, 100);
        handsOn(winding(alone(PLAIN, 8)), 8);
        handsOn(winding(alone(PLAIN, 56)), 56);
    }

    private static void p19CrossAtTheEdges() {
        handsOn(alone(CROSS, 7), 7, 15, 50);
        handsOn(alone(CROSS, 56), 56, 57, 50);
        handsOn(alone(CROSS, 63), 63);
        handsOn(winding(alone(CROSS, 8)), 8, 16, 50);
        handsOn(winding(alone(CROSS, 15)), 15, 23, 50, 14, 50);
        handsOn(winding(alone(CROSS, 63)), 63, 62, 50);
    }

    private static void p19FullAtTheEdges() {
        handsOn(alone(FULL, 0), 0, 9, 6, 8, 31, 1, 45);
        handsOn(alone(FULL, 7), 7, 15, 31, 14, 18);
        handsOn(alone(FULL, 56), 56, 57, 45);
        handsOn(alone(FULL, 63), 63);
        handsOn(winding(alone(FULL, 8)), 8, 16, 31, 17, 18);
        handsOn(winding(alone(FULL, 15)), 15, 22, 6, 23, 31, 14, 45);
        handsOn(winding(alone(FULL, 63)), 63, 62, 45);
        handsOn(winding(alone(FULL, 56)), 56);
    }

    private static void p19WideAtTheEdges() {
        handsOn(alone(WIDE, 6), 6, 22, 12, 15, 12, 14, 25, 7, 39);
        handsOn(alone(WIDE, 7), 7, 23, 12, 15, 25);
        handsOn(alone(WIDE, 48), 48, 57, 12, 56, 25, 50, 12, 49, 39);
        handsOn(alone(WIDE, 55), 55, 63, 25);
        handsOn(alone(WIDE, 56), 56, 58, 12, 57, 39);
        handsOn(alone(WIDE, 62), 62, 63, 39);
        handsOn(alone(WIDE, 63), 63);
        handsOn(winding(alone(WIDE, 9)), 9, 25, 12, 16, 12, 17, 25, 8, 39);
        handsOn(winding(alone(WIDE, 8)), 8, 24, 12, 16, 25);
        handsOn(winding(alone(WIDE, 63)), 63, 61, 12, 62, 39);
        handsOn(winding(alone(WIDE, 57)), 57, 56, 39);
    }

    private static void p19ErrorOf0() {
        for (int rule = 0; rule < 4; rule++) {
            handsOn(painterWith(rule, 255, 9, 255), 9);
        }
    }

    private static void p19ErrorTooSmallToBeDivided() {
        handsOn(painterWith(CROSS, 128, 9, 1), 9, 10, 1);
        handsOn(painterWith(FULL, 128, 9, 1), 9, 10, 1);
        handsOn(painterWith(WIDE, 128, 9, 1), 9, 10, 1);
        handsOn(painterWith(FULL, 128, 9, 254), 9, 10, -1);
    }

    private static void p19JustGreatEnoughToBeDivided() {
        handsOn(painterWith(CROSS, 128, 9, 2), 9, 17, 1, 10, 1);
        handsOn(painterWith(FULL, 128, 9, 15), 9, 17, 4, 16, 2, 10, 9);
        handsOn(painterWith(FULL, 128, 9, 16), 9, 18, 1, 17, 5, 16, 3, 10, 7);
        handsOn(painterWith(WIDE, 128, 9, 7), 9, 17, 1, 10, 6);
        handsOn(painterWith(WIDE, 128, 9, 8), 9, 25, 1, 18, 1, 17, 2, 11, 1, 10, 3);
    }

    private static void p19SharesBelow0AreCutOffToward0() {
        handsOn(painterWith(PLAIN, 128, 9, 200), 9, 10, -55);
        handsOn(painterWith(CROSS, 128, 9, 200), 9, 17, -27, 10, -28);
        handsOn(painterWith(FULL, 128, 9, 200), 9, 18, -3, 17, -17, 16, -10, 10, -25);
        handsOn(painterWith(WIDE, 128, 9, 200), 9, 25, -6, 18, -6, 17, -13, 11, -6, 10, -24);
    }
}
