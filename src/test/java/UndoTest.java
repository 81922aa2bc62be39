/** Promises 30 to 33: undo and the saved states. */
public final class UndoTest {
    public static void main(String[] args) {
        undoOfEachChange();
        undoOfChangesThatAlterNothing();
        sixStatesAreKept();
        undoLeavesTheRest();
        saveAndLoad();
        slotsAreApart();
        Check.end();
    }

    private interface Change {
        void make(FlakePainter painter);
    }

    private static final Change[] CHANGES = {
        painter -> painter.setGrey(40, 9),
        painter -> painter.shadeRow(6, 3, 77),
        painter -> painter.fill(3, 3, 3, 31),
        painter -> painter.invert(),
        painter -> painter.thaw(33),
        painter -> painter.setRule(FlakePainter.WIDE),
        painter -> painter.setThreshold(99),
        painter -> painter.turnWinding(),
        painter -> painter.loadState(1),
        painter -> {
            Check.append(painter, "i;w;r0;t9");
            painter.runText();
        },
    };

    private static FlakePainter sample() {
        FlakePainter painter = new FlakePainter();
        Check.append(painter, "g40=200;g7=255;g63=3;w;r1");
        painter.runText();
        painter.setThreshold(77);
        painter.saveState(1);
        painter.shadeRow(2, 40, 90);
        return painter;
    }

    private static void undoOfEachChange() {
        for (int index = 0; index < CHANGES.length; index++) {
            FlakePainter painter = sample();
            String before = Check.stateOf(painter);
            CHANGES[index].make(painter);
            Check.due("P31 undoCount after change " + index, painter.undoCount(), 4);
            Check.due("P30 change " + index + " alters", Check.stateOf(painter).equals(before), false);
            Check.due("P30 undo of change " + index, painter.undo(), 3);
            Check.due("P31 undoCount after undo " + index, painter.undoCount(), 3);
            Check.sameState("P30 undo of change " + index, painter, before);
        }
    }

    private static void undoOfChangesThatAlterNothing() {
        FlakePainter painter = new FlakePainter();
        painter.setGrey(0, 0);
        painter.shadeRow(0, 0, 0);
        painter.fill(0, 8, 8, 0);
        painter.thaw(255);
        painter.setRule(FlakePainter.FULL);
        painter.setThreshold(128);
        Check.due("P31 all are recorded", painter.undoCount(), 6);
        for (int left = 5; left >= 0; left--) {
            Check.due("P30 undo", painter.undo(), left);
        }
        Check.badState("P30 nothing left", painter::undo);
        Check.due("P31 nothing left", painter.undoCount(), 0);
    }

    private static void sixStatesAreKept() {
        FlakePainter painter = new FlakePainter();
        for (int grey = 1; grey <= 20; grey++) {
            painter.setGrey(5, grey);
            Check.due("P31 undoCount", painter.undoCount(), Math.min(grey, 6));
        }
        for (int left = 5; left >= 2; left--) {
            Check.due("P30 undo", painter.undo(), left);
            Check.due("P30 grey", painter.greyOf(5), 14 + left);
        }
        painter.setGrey(5, 100);
        Check.due("P31 recorded again", painter.undoCount(), 3);
        Check.due("P30 undo again", painter.undo(), 2);
        Check.due("P30 grey again", painter.greyOf(5), 16);
        painter.undo();
        Check.due("P30 the oldest", painter.undo(), 0);
        Check.due("P30 the oldest grey", painter.greyOf(5), 14);
        Check.badState("P30 older ones are dropped", painter::undo);
        Check.due("P30 grey stays", painter.greyOf(5), 14);
    }

    private static void undoLeavesTheRest() {
        FlakePainter painter = new FlakePainter();
        painter.setGrey(1, 10);
        Check.append(painter, "g1=2");
        painter.saveState(0);
        painter.setGrey(1, 20);
        painter.undo();
        painter.undo();
        Check.due("P30 grey", painter.greyOf(1), 0);
        Check.due("P30 text stays", painter.textLength(), 4);
        Check.due("P30 slot stays", painter.loadState(0), 10);
        painter.runText();
        painter.undo();
        Check.due("P30 an executed text does not come back", painter.textLength(), 0);
        Check.due("P30 grey of the slot", painter.greyOf(1), 10);
    }

    private static void saveAndLoad() {
        FlakePainter painter = sample();
        String saved = Check.stateOf(painter);
        int sum = painter.greySum();
        Check.due("P32 saveState", painter.saveState(0), sum);
        Check.due("P32 is no change", painter.undoCount(), 3);
        painter.invert();
        painter.setRule(FlakePainter.WIDE);
        painter.undo();
        painter.undo();
        painter.setThreshold(1);
        Check.due("P33 loadState", painter.loadState(0), sum);
        Check.due("P33 is a change", painter.undoCount(), 5);
        Check.sameState("P33 loadState", painter, saved);
        painter.invert();
        painter.undo();
        painter.undo();
        painter.undo();
        painter.turnWinding();
        Check.due("P33 the slot keeps it", painter.loadState(0), sum);
        Check.sameState("P33 the slot keeps it", painter, saved);
    }

    private static void slotsAreApart() {
        FlakePainter painter = new FlakePainter();
        painter.setGrey(0, 11);
        Check.due("P32 slot 0", painter.saveState(0), 11);
        Check.badState("P33 slot 1 is empty", () -> painter.loadState(1));
        painter.setGrey(0, 22);
        Check.due("P32 slot 1", painter.saveState(1), 22);
        Check.due("P33 slot 0", painter.loadState(0), 11);
        Check.due("P33 slot 1", painter.loadState(1), 22);
        painter.setGrey(0, 33);
        Check.due("P32 slot 0 again", painter.saveState(0), 33);
        painter.setGrey(0, 44);
        Check.due("P33 slot 1 still", painter.loadState(1), 22);
        Check.due("P33 slot 0 is replaced", painter.loadState(0), 33);
    }
}
