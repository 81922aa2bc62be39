/** Promises 13 to 19: painting. */
public final class PaintingTest {
    public static void main(String[] args) {
        plainRow();
        plainWinding();
        crossShares();
        fullShares();
        fullSharesWinding();
        wideShares();
        wideSharesWinding();
        threshold();
        pathsOfOneCell();
        whatIsLost();
        wholePictures();
        eachQuestionFirst();
        Check.end();
    }

    private static FlakePainter painterWith(int rule, int cell, int grey) {
        FlakePainter painter = new FlakePainter();
        painter.setRule(rule);
        painter.setGrey(cell, grey);
        return painter;
    }

    private static void flakesAre(String what, FlakePainter painter, long mask) {
        Check.due("P13 flakes, " + what, painter.flakes(), mask);
        Check.due("P14 flakesByCollecting, " + what, painter.flakesByCollecting(), mask);
        Check.due("P15 flakeCount, " + what, painter.flakeCount(), Long.bitCount(mask));
    }

    /** What cell hands on to each cell: pairs of a cell and an amount, 0 for all cells that are not told. */
    private static void handsOn(String what, FlakePainter painter, int cell, int... pairs) {
        int[] due = new int[64];
        for (int index = 0; index < pairs.length; index += 2) {
            due[pairs[index]] = pairs[index + 1];
        }
        for (int other = 0; other < 64; other++) {
            Check.due("P19 " + what + " handedOn(" + cell + ", " + other + ")", painter.handedOn(cell, other), due[other]);
        }
    }

    private static void plainRow() {
        FlakePainter painter = new FlakePainter();
        painter.setRule(FlakePainter.PLAIN);
        painter.fill(0, 1, 8, 100);
        int[] values = {100, 200, 45, 145, -10, 90, 190, 35};
        int[] errors = {100, -55, 45, -110, -10, 90, -65, 35};
        for (int cell = 0; cell < 8; cell++) {
            Check.due("P16 PLAIN valueOf " + cell, painter.valueOf(cell), values[cell]);
            Check.due("P17 PLAIN errorOf " + cell, painter.errorOf(cell), errors[cell]);
        }
        flakesAre("PLAIN row", painter, 0x4AL);
        Check.due("P18 PLAIN lost", painter.lost(), 35);
        handsOn("PLAIN", painter, 3, 4, -110);
        handsOn("PLAIN at the edge", painter, 7);
        Check.due("P13 to P19 are no changes", painter.undoCount(), 2);
    }

    private static void plainWinding() {
        FlakePainter painter = new FlakePainter();
        painter.setRule(FlakePainter.PLAIN);
        painter.fill(0, 8, 8, 100);
        flakesAre("PLAIN", painter, 0x4A4A4A4A4A4A4A4AL);
        painter.turnWinding();
        flakesAre("PLAIN winding", painter, 0x524A524A524A524AL);
        Check.due("P16 PLAIN winding valueOf 15", painter.valueOf(15), 100);
        Check.due("P16 PLAIN winding valueOf 14", painter.valueOf(14), 200);
        Check.due("P17 PLAIN winding errorOf 14", painter.errorOf(14), -55);
        handsOn("PLAIN winding", painter, 14, 13, -55);
        handsOn("PLAIN winding at the edge", painter, 8);
        Check.due("P18 PLAIN winding lost", painter.lost(), 280);
    }

    private static void crossShares() {
        handsOn("CROSS", painterWith(FlakePainter.CROSS, 0, 101), 0, 8, 50, 1, 51);
        handsOn("CROSS, negative", painterWith(FlakePainter.CROSS, 0, 200), 0, 8, -27, 1, -28);
        handsOn("CROSS at the right", painterWith(FlakePainter.CROSS, 7, 101), 7, 15, 50);
        handsOn("CROSS at the bottom", painterWith(FlakePainter.CROSS, 56, 101), 56, 57, 51);
    }

    private static void fullShares() {
        handsOn("FULL", painterWith(FlakePainter.FULL, 9, 100), 9, 18, 6, 17, 31, 16, 18, 10, 45);
        handsOn("FULL, negative", painterWith(FlakePainter.FULL, 9, 200), 9, 18, -3, 17, -17, 16, -10, 10, -25);
        handsOn("FULL at the left", painterWith(FlakePainter.FULL, 0, 100), 0, 9, 6, 8, 31, 1, 45);
        handsOn("FULL at the right", painterWith(FlakePainter.FULL, 7, 100), 7, 15, 31, 14, 18);
        handsOn("FULL at the bottom", painterWith(FlakePainter.FULL, 60, 100), 60, 61, 45);
        handsOn("FULL at the end", painterWith(FlakePainter.FULL, 63, 100), 63);
    }

    private static void fullSharesWinding() {
        FlakePainter painter = painterWith(FlakePainter.FULL, 9, 100);
        painter.turnWinding();
        handsOn("FULL winding", painter, 9, 16, 6, 17, 31, 18, 18, 8, 45);
        FlakePainter even = painterWith(FlakePainter.FULL, 18, 100);
        even.turnWinding();
        handsOn("FULL winding, even row", even, 18, 27, 6, 26, 31, 25, 18, 19, 45);
    }

    private static void wideShares() {
        handsOn("WIDE", painterWith(FlakePainter.WIDE, 9, 100), 9, 25, 12, 18, 12, 17, 25, 11, 12, 10, 39);
        handsOn("WIDE, negative", painterWith(FlakePainter.WIDE, 9, 200), 9, 25, -6, 18, -6, 17, -13, 11, -6, 10, -24);
        handsOn("WIDE one before the right", painterWith(FlakePainter.WIDE, 14, 100), 14, 30, 12, 23, 12, 22, 25, 15, 39);
        handsOn("WIDE one above the bottom", painterWith(FlakePainter.WIDE, 48, 100), 48, 57, 12, 56, 25, 50, 12, 49, 39);
    }

    private static void wideSharesWinding() {
        FlakePainter painter = painterWith(FlakePainter.WIDE, 12, 100);
        painter.turnWinding();
        handsOn("WIDE winding", painter, 12, 28, 12, 19, 12, 20, 25, 10, 12, 11, 39);
        FlakePainter edge = painterWith(FlakePainter.WIDE, 9, 100);
        edge.turnWinding();
        handsOn("WIDE winding at the edge", edge, 9, 25, 12, 16, 12, 17, 25, 8, 39);
    }

    private static void threshold() {
        FlakePainter painter = painterWith(FlakePainter.PLAIN, 63, 127);
        flakesAre("127 below 128", painter, 0);
        Check.due("P17 errorOf without a flake", painter.errorOf(63), 127);
        painter.setGrey(63, 128);
        flakesAre("128 at 128", painter, 1L << 63);
        Check.due("P17 errorOf with a flake", painter.errorOf(63), -127);
        painter.setThreshold(129);
        flakesAre("128 below 129", painter, 0);
        painter.setThreshold(255);
        painter.setGrey(63, 255);
        flakesAre("255 at 255", painter, 1L << 63);
        Check.due("P17 errorOf 255", painter.errorOf(63), 0);
        FlakePainter least = painterWith(FlakePainter.PLAIN, 7, 1);
        least.setThreshold(1);
        flakesAre("1 at 1, 0 below it", least, 1L << 7);
    }

    private static void pathsOfOneCell() {
        FlakePainter painter = painterWith(FlakePainter.FULL, 0, 100);
        Check.due("P16 valueOf 1", painter.valueOf(1), 45);
        // 8 gets 31 from 0 and 3/16 of 45 from 1.
        Check.due("P16 valueOf 8", painter.valueOf(8), 39);
        // 2 gets the rest of 45: 45 - 2 - 14 - 8.
        Check.due("P16 valueOf 2", painter.valueOf(2), 21);
        // 9 gets 6 from 0, 14 from 1, 3 from 2 and the rest of 39 from 8: 39 - 2 - 12 - 7.
        Check.due("P16 valueOf 9", painter.valueOf(9), 41);
        Check.due("P17 errorOf 9", painter.errorOf(9), 41);
        flakesAre("one weak cell", painter, 0);
        Check.due("P18 lost, one weak cell", painter.lost(), 100);
    }

    private static void whatIsLost() {
        Check.due("P18 lost at the end", painterWith(FlakePainter.FULL, 63, 100).lost(), 100);
        Check.due("P18 lost at the end, negative", painterWith(FlakePainter.WIDE, 63, 200).lost(), -55);
        for (int rule = 0; rule < 4; rule++) {
            FlakePainter painter = new FlakePainter();
            painter.setRule(rule);
            painter.shadeRow(0, 0, 255);
            painter.shadeRow(3, 250, 17);
            painter.fill(41, 2, 5, 140);
            // Nothing gets lost within: greys that became no flakes are lost at the edges.
            Check.due("P18 lost, rule " + rule, painter.lost(), painter.greySum() - 255 * painter.flakeCount());
            painter.turnWinding();
            Check.due("P18 lost, winding, rule " + rule, painter.lost(), painter.greySum() - 255 * painter.flakeCount());
        }
    }

    private static void wholePictures() {
        FlakePainter painter = new FlakePainter();
        flakesAre("nothing", painter, 0);
        Check.due("P18 lost, nothing", painter.lost(), 0);
        painter.invert();
        flakesAre("all", painter, -1L);
        Check.due("P18 lost, all", painter.lost(), 0);
        Check.due("P16 valueOf, all", painter.valueOf(37), 255);
        Check.due("P17 errorOf, all", painter.errorOf(37), 0);
        painter.fill(0, 8, 8, 100);
        flakesAre("FULL 100", painter, 1559461623881673362L);
        painter.turnWinding();
        painter.setRule(FlakePainter.WIDE);
        flakesAre("WIDE winding 100", painter, -6536321592099976814L);
        painter.setRule(FlakePainter.CROSS);
        flakesAre("CROSS winding 100", painter, -7770516806864057966L);
    }

    /** Each question is asked alone after a change, so that none lives on what another one painted. */
    private static void eachQuestionFirst() {
        FlakePainter painter = painterWith(FlakePainter.PLAIN, 9, 200);
        Check.due("P14 flakesByCollecting first", painter.flakesByCollecting(), 1L << 9);
        painter.setGrey(10, 190);
        Check.due("P14 flakesByCollecting after a change", painter.flakesByCollecting(), 3L << 9);
        painter.setGrey(10, 0);
        Check.due("P14 flakesByCollecting after a flake has gone", painter.flakesByCollecting(), 1L << 9);
        Check.due("P13 flakes after a change", painter.flakes(), 1L << 9);
        painter.setGrey(9, 201);
        Check.due("P17 errorOf after a change", painter.errorOf(9), -54);
        painter.setGrey(9, 202);
        Check.due("P16 valueOf after a change", painter.valueOf(10), -53);
        painter.setGrey(9, 203);
        Check.due("P19 handedOn after a change", painter.handedOn(9, 10), -52);
        painter.setGrey(9, 204);
        Check.due("P18 lost after a change", painter.lost(), -51);
        painter.setGrey(9, 100);
        Check.due("P15 flakeCount after a change", painter.flakeCount(), 0);
        painter.setGrey(9, 200);
        painter.smoothestRule();
        painter.thresholdFor(0);
        Check.due("P17 errorOf after trials of other rules", painter.errorOf(9), -55);
    }
}
