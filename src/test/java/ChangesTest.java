/** Promises 1 to 12: a new object, the changes and the picture. */
public final class ChangesTest {
    public static void main(String[] args) {
        newObject();
        setGrey();
        shadeRow();
        fill();
        invert();
        thaw();
        setRule();
        setThreshold();
        turnWinding();
        greyOf();
        greySum();
        cellAt();
        Check.end();
    }

    private static void newObject() {
        FlakePainter painter = new FlakePainter();
        for (int cell = 0; cell < 64; cell++) {
            Check.due("P1 greyOf " + cell, painter.greyOf(cell), 0);
            Check.due("P1 cellAt " + cell, painter.cellAt(cell), cell);
        }
        Check.due("P1 undoCount", painter.undoCount(), 0);
        Check.due("P1 textLength", painter.textLength(), 0);
        Check.badState("P1 loadState 0", () -> painter.loadState(0));
        Check.badState("P1 loadState 1", () -> painter.loadState(1));
        Check.due("P1 rule", painter.setRule(FlakePainter.PLAIN), FlakePainter.FULL);
        Check.due("P1 threshold", painter.setThreshold(1), 128);
        Check.due("P1 winding", painter.turnWinding(), true);
        new FlakePainter().invert();
        Check.due("P1 objects share nothing", new FlakePainter().greySum(), 0);
    }

    private static void setGrey() {
        FlakePainter painter = new FlakePainter();
        Check.due("P2 setGrey(0, 255)", painter.setGrey(0, 255), 0);
        Check.due("P2 setGrey(0, 7)", painter.setGrey(0, 7), 255);
        Check.due("P2 setGrey(0, 7) again", painter.setGrey(0, 7), 7);
        Check.due("P2 setGrey(63, 1)", painter.setGrey(63, 1), 0);
        Check.due("P2 setGrey(63, 0)", painter.setGrey(63, 0), 1);
        Check.due("P2 changes", painter.undoCount(), 5);
        Check.due("P2 sum", painter.greySum(), 7);
    }

    private static void shadeRow() {
        FlakePainter painter = new FlakePainter();
        Check.due("P3 shadeRow(2, 0, 255)", painter.shadeRow(2, 0, 255), 1017);
        rowIs(painter, 2, 0, 36, 72, 109, 145, 182, 218, 255);
        Check.due("P3 shadeRow(5, 255, 0)", painter.shadeRow(5, 255, 0), 1023);
        rowIs(painter, 5, 255, 219, 183, 146, 110, 73, 37, 0);
        Check.due("P3 shadeRow(0, 10, 3)", painter.shadeRow(0, 10, 3), 52);
        rowIs(painter, 0, 10, 9, 8, 7, 6, 5, 4, 3);
        Check.due("P3 shadeRow(7, 5, 0)", painter.shadeRow(7, 5, 0), 23);
        rowIs(painter, 7, 5, 5, 4, 3, 3, 2, 1, 0);
        Check.due("P3 shadeRow(7, 200, 200)", painter.shadeRow(7, 200, 200), 1600);
        Check.due("P3 changes", painter.undoCount(), 5);
        Check.due("P3 other rows", painter.greySum(), 1017 + 1023 + 52 + 1600);
    }

    private static void rowIs(FlakePainter painter, int row, int... greys) {
        for (int column = 0; column < 8; column++) {
            Check.due("P3 row " + row + " column " + column, painter.greyOf(8 * row + column), greys[column]);
        }
    }

    private static void fill() {
        FlakePainter painter = new FlakePainter();
        Check.due("P4 fill(9, 2, 3, 50)", painter.fill(9, 2, 3, 50), 6);
        for (int cell = 0; cell < 64; cell++) {
            boolean inside = cell >= 9 && cell <= 11 || cell >= 17 && cell <= 19;
            Check.due("P4 cell " + cell, painter.greyOf(cell), inside ? 50 : 0);
        }
        Check.due("P4 fill again", painter.fill(9, 2, 3, 50), 0);
        Check.due("P4 fill overlapping", painter.fill(18, 2, 2, 50), 2);
        Check.due("P4 changes", painter.undoCount(), 3);
        Check.due("P4 fill past the corner", painter.fill(63, 8, 8, 1), 1);
        Check.due("P4 fill past the right", painter.fill(7, 1, 8, 9), 1);
        Check.due("P4 no wrap to the next row", painter.greyOf(8), 0);
        Check.due("P4 fill past the bottom", painter.fill(56, 2, 1, 3), 1);
        FlakePainter other = new FlakePainter();
        Check.due("P4 fill all", other.fill(0, 8, 8, 255), 64);
        Check.due("P4 sum of all", other.greySum(), 16320);
        Check.due("P4 fill one", other.fill(20, 1, 1, 0), 1);
        Check.due("P4 one cell", other.greySum(), 16065);
    }

    private static void invert() {
        FlakePainter painter = new FlakePainter();
        Check.due("P5 invert", painter.invert(), 16320);
        painter.setGrey(9, 100);
        Check.due("P5 invert again", painter.invert(), 155);
        Check.due("P5 cell 9", painter.greyOf(9), 155);
        Check.due("P5 cell 10", painter.greyOf(10), 0);
        Check.due("P5 changes", painter.undoCount(), 3);
    }

    private static void thaw() {
        FlakePainter painter = new FlakePainter();
        Check.due("P6 thaw nothing", painter.thaw(1), 64);
        painter.setGrey(0, 10);
        painter.setGrey(1, 11);
        painter.setGrey(63, 255);
        Check.due("P6 thaw(10)", painter.thaw(10), 62);
        Check.due("P6 cell 0", painter.greyOf(0), 0);
        Check.due("P6 cell 1", painter.greyOf(1), 1);
        Check.due("P6 cell 63", painter.greyOf(63), 245);
        Check.due("P6 cell 2", painter.greyOf(2), 0);
        Check.due("P6 changes", painter.undoCount(), 5);
        Check.due("P6 thaw(255)", painter.thaw(255), 64);
        Check.due("P6 sum", painter.greySum(), 0);
    }

    private static void setRule() {
        FlakePainter painter = new FlakePainter();
        Check.due("P7 setRule(WIDE)", painter.setRule(FlakePainter.WIDE), FlakePainter.FULL);
        Check.due("P7 setRule(PLAIN)", painter.setRule(FlakePainter.PLAIN), FlakePainter.WIDE);
        Check.due("P7 setRule(CROSS)", painter.setRule(FlakePainter.CROSS), FlakePainter.PLAIN);
        Check.due("P7 setRule(CROSS) again", painter.setRule(FlakePainter.CROSS), FlakePainter.CROSS);
        Check.due("P7 changes", painter.undoCount(), 4);
    }

    private static void setThreshold() {
        FlakePainter painter = new FlakePainter();
        Check.due("P8 setThreshold(1)", painter.setThreshold(1), 128);
        Check.due("P8 setThreshold(255)", painter.setThreshold(255), 1);
        Check.due("P8 setThreshold(255) again", painter.setThreshold(255), 255);
        Check.due("P8 changes", painter.undoCount(), 3);
    }

    private static void turnWinding() {
        FlakePainter painter = new FlakePainter();
        Check.due("P9 turnWinding", painter.turnWinding(), true);
        Check.due("P9 cellAt(8) when on", painter.cellAt(8), 15);
        Check.due("P9 turnWinding again", painter.turnWinding(), false);
        Check.due("P9 cellAt(8) when off", painter.cellAt(8), 8);
        Check.due("P9 changes", painter.undoCount(), 2);
    }

    private static void greyOf() {
        FlakePainter painter = new FlakePainter();
        painter.setGrey(17, 99);
        painter.setGrey(63, 255);
        Check.due("P10 greyOf(17)", painter.greyOf(17), 99);
        Check.due("P10 greyOf(63)", painter.greyOf(63), 255);
        Check.due("P10 greyOf(0)", painter.greyOf(0), 0);
        Check.due("P10 is no change", painter.undoCount(), 2);
    }

    private static void greySum() {
        FlakePainter painter = new FlakePainter();
        Check.due("P11 sum of nothing", painter.greySum(), 0);
        painter.setGrey(0, 3);
        painter.setGrey(63, 40);
        painter.setGrey(30, 200);
        Check.due("P11 sum", painter.greySum(), 243);
        Check.due("P11 is no change", painter.undoCount(), 3);
    }

    private static void cellAt() {
        FlakePainter painter = new FlakePainter();
        painter.turnWinding();
        for (int step = 0; step < 64; step++) {
            int row = step / 8;
            int due = row % 2 == 0 ? step : 8 * row + 7 - step % 8;
            Check.due("P12 cellAt " + step, painter.cellAt(step), due);
        }
        Check.due("P12 is no change", painter.undoCount(), 1);
    }
}
