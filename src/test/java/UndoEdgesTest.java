/** The edges of promises 30 to 33, each in a test of its own. */
public final class UndoEdgesTest {
    public static void main(String[] args) throws IllegalAccessException {
        Promises.test(UndoEdgesTest.class, 30, 33);
    }

    /** Every kind of change, in a form that alters nothing in a new object whose slot 0 holds what it is. */
    private static final Refused.Calls[] CHANGES_OF_NOTHING = {
        painter -> painter.setGrey(5, 0),
        painter -> painter.shadeRow(5, 0, 0),
        painter -> painter.fill(5, 2, 2, 0),
        painter -> painter.thaw(5),
        painter -> painter.setRule(FlakePainter.FULL),
        painter -> painter.setThreshold(128),
        painter -> painter.loadState(0),
        painter -> run(painter, "w;w"),
        painter -> run(painter, "t0"),
    };

    /** Every kind of change, in a form that alters what Refused.USED leaves. */
    private static final Refused.Calls[] CHANGES = {
        painter -> painter.setGrey(5, 9),
        painter -> painter.shadeRow(5, 3, 250),
        painter -> painter.fill(5, 2, 2, 9),
        painter -> painter.invert(),
        painter -> painter.thaw(5),
        painter -> painter.setRule(FlakePainter.PLAIN),
        painter -> painter.setThreshold(9),
        painter -> painter.turnWinding(),
        painter -> painter.loadState(1),
        painter -> run(painter, "i;w;r0;t1;g0=9"),
    };

    private static void run(FlakePainter painter, String text) {
        painter.clearText();
        Check.append(painter, text);
        painter.runText();
    }

    /** Records so many states; with the grey of cell 0 each state's place in the history can be told. */
    private static FlakePainter painterWithStates(int states) {
        FlakePainter painter = new FlakePainter();
        for (int grey = 1; grey <= states; grey++) {
            painter.setGrey(0, grey);
        }
        return painter;
    }

    // ---- promise 30: undo

    private static void p30NothingIsRecorded() {
        Refused.badState("at first", Refused.NEW, FlakePainter::undo);
    }

    private static void p30NothingIsLeft() {
        for (int states = 1; states <= 8; states++) {
            int recorded = states;
            Refused.badState("after " + states, painter -> {
                for (int grey = 1; grey <= recorded; grey++) {
                    painter.setGrey(0, grey);
                }
                painter.saveState(1);
                Check.append(painter, "g0=9");
                for (int left = Math.min(recorded, 6); left > 0; left--) {
                    painter.undo();
                }
            }, FlakePainter::undo);
        }
    }

    private static void p30TheOnlyOne() {
        FlakePainter painter = painterWithStates(1);
        Check.due("undo", painter.undo(), 0);
        Check.due("greyOf(0)", painter.greyOf(0), 0);
    }

    private static void p30EachOfSix() {
        FlakePainter painter = painterWithStates(6);
        for (int left = 5; left >= 0; left--) {
            Check.due("undo", painter.undo(), left);
            Check.due("greyOf(0)", painter.greyOf(0), left);
        }
    }

    private static void p30TheOldestOfSevenIsDropped() {
        FlakePainter painter = painterWithStates(7);
        for (int left = 5; left >= 0; left--) {
            Check.due("undo", painter.undo(), left);
            Check.due("greyOf(0)", painter.greyOf(0), left + 1);
        }
        Check.badState("undo of the dropped one", painter::undo);
        Check.due("greyOf(0) afterwards", painter.greyOf(0), 1);
    }

    private static void p30TheOldestIsDroppedAgainAndAgain() {
        FlakePainter painter = painterWithStates(50);
        for (int left = 5; left >= 0; left--) {
            Check.due("undo", painter.undo(), left);
            Check.due("greyOf(0)", painter.greyOf(0), left + 44);
        }
    }

    private static void p30RecordingAfterUndo() {
        FlakePainter painter = painterWithStates(7);
        painter.undo();
        painter.undo();
        for (int grey = 101; grey <= 103; grey++) {
            painter.setGrey(0, grey);
        }
        int[] due = {102, 101, 5, 4, 3, 2};
        for (int index = 0; index < 6; index++) {
            painter.undo();
            Check.due("greyOf(0) after undo " + index, painter.greyOf(0), due[index]);
        }
        Check.due("undoCount", painter.undoCount(), 0);
    }

    private static void p30ChangesThatAlterNothingAreRecorded() {
        for (int index = 0; index < CHANGES_OF_NOTHING.length; index++) {
            FlakePainter painter = new FlakePainter();
            painter.saveState(0);
            CHANGES_OF_NOTHING[index].make(painter);
            Check.due("undoCount after change " + index, painter.undoCount(), 1);
            Check.due("undo of change " + index, painter.undo(), 0);
        }
    }

    private static void p30EachChangeIsUndone() {
        for (int index = 0; index < CHANGES.length; index++) {
            FlakePainter painter = new FlakePainter();
            Refused.USED.make(painter);
            String before = Check.stateOf(painter);
            CHANGES[index].make(painter);
            Check.due("change " + index + " alters", Check.stateOf(painter).equals(before), false);
            painter.undo();
            Check.sameState("undo of change " + index, painter, before);
        }
    }

    private static void p30EachChangeDropsTheOldestOfSix() {
        for (int index = 0; index < CHANGES.length; index++) {
            FlakePainter painter = new FlakePainter();
            painter.saveState(1);
            for (int grey = 1; grey <= 6; grey++) {
                painter.setGrey(63, grey);
            }
            CHANGES[index].make(painter);
            for (int left = 5; left >= 0; left--) {
                Check.due("undo, change " + index, painter.undo(), left);
                Check.due("greyOf(63), change " + index, painter.greyOf(63), left + 1);
            }
            Check.badState("undo of what was dropped, change " + index, painter::undo);
        }
    }

    private static void p30UndoIsNotUndone() {
        FlakePainter painter = painterWithStates(3);
        painter.undo();
        painter.undo();
        Check.due("greyOf(0)", painter.greyOf(0), 1);
        Check.due("undoCount", painter.undoCount(), 1);
    }

    private static void p30RefusedCallsRecordNothing() {
        FlakePainter painter = new FlakePainter();
        Check.outOfBounds("setGrey", () -> painter.setGrey(64, 0));
        Check.badArgument("setGrey", () -> painter.setGrey(0, 256));
        Check.outOfBounds("shadeRow", () -> painter.shadeRow(8, 0, 0));
        Check.badArgument("shadeRow", () -> painter.shadeRow(0, 0, 256));
        Check.outOfBounds("fill", () -> painter.fill(64, 1, 1, 0));
        Check.badArgument("fill", () -> painter.fill(0, 1, 9, 0));
        Check.badArgument("thaw", () -> painter.thaw(0));
        Check.badArgument("setRule", () -> painter.setRule(4));
        Check.badArgument("setThreshold", () -> painter.setThreshold(0));
        Check.badState("runText", painter::runText);
        Check.outOfBounds("loadState", () -> painter.loadState(2));
        Check.badState("loadState", () -> painter.loadState(0));
        Check.badState("undo", painter::undo);
        Check.due("undoCount", painter.undoCount(), 0);
    }

    private static void p30QuestionsRecordNothing() {
        FlakePainter painter = new FlakePainter();
        painter.greyOf(0);
        painter.greySum();
        painter.cellAt(0);
        painter.flakes();
        painter.flakesByCollecting();
        painter.flakeCount();
        painter.valueOf(0);
        painter.errorOf(0);
        painter.lost();
        painter.handedOn(0, 1);
        painter.squareError(0);
        painter.roughness();
        painter.smoothestRule();
        painter.thresholdFor(0);
        painter.excess();
        painter.textLength();
        painter.textError();
        painter.undoCount();
        Check.due("undoCount", painter.undoCount(), 0);
    }

    private static void p30TextCallsAndSavingRecordNothing() {
        FlakePainter painter = new FlakePainter();
        painter.appendText('i');
        painter.clearText();
        painter.saveState(0);
        painter.saveState(1);
        Check.due("undoCount", painter.undoCount(), 0);
    }

    private static void p30TheTextIsNotPartOfAState() {
        FlakePainter painter = new FlakePainter();
        Check.append(painter, "g5=7");
        painter.invert();
        painter.appendText('7');
        painter.undo();
        Check.due("textLength", painter.textLength(), 5);
        painter.runText();
        Check.due("greyOf(5)", painter.greyOf(5), 77);
        painter.undo();
        Check.due("textLength after undo of runText", painter.textLength(), 0);
    }

    private static void p30TheSlotsAreNotPartOfAState() {
        FlakePainter painter = new FlakePainter();
        painter.setGrey(0, 9);
        painter.saveState(0);
        painter.setGrey(0, 10);
        painter.saveState(1);
        painter.undo();
        painter.undo();
        Check.due("loadState(0)", painter.loadState(0), 9);
        Check.due("loadState(1)", painter.loadState(1), 10);
    }

    private static void p30TheHistoryIsNotPartOfAState() {
        FlakePainter painter = painterWithStates(2);
        painter.saveState(0);
        painter.setGrey(0, 3);
        painter.setGrey(0, 4);
        painter.undo();
        painter.undo();
        painter.undo();
        painter.undo();
        painter.loadState(0);
        Check.due("undoCount", painter.undoCount(), 1);
        painter.undo();
        Check.due("greyOf(0)", painter.greyOf(0), 0);
    }

    private static void p30AllOfTheStateComesBack() {
        FlakePainter painter = new FlakePainter();
        painter.setRule(FlakePainter.CROSS);
        painter.setThreshold(200);
        painter.turnWinding();
        painter.shadeRow(7, 9, 99);
        String before = Check.stateOf(painter);
        run(painter, "r0;w;i;t9;g63=0");
        painter.setThreshold(1);
        painter.undo();
        painter.undo();
        Check.sameState("after undo", painter, before);
    }

    // ---- promise 31: undoCount

    private static void p31None() {
        Check.due("undoCount", new FlakePainter().undoCount(), 0);
    }

    private static void p31OneToSix() {
        for (int states = 1; states <= 6; states++) {
            Check.due("undoCount", painterWithStates(states).undoCount(), states);
        }
    }

    private static void p31NotMoreThanSix() {
        Check.due("7", painterWithStates(7).undoCount(), 6);
        Check.due("100", painterWithStates(100).undoCount(), 6);
    }

    private static void p31BackToNone() {
        FlakePainter painter = painterWithStates(7);
        for (int left = 5; left >= 0; left--) {
            painter.undo();
            Check.due("undoCount", painter.undoCount(), left);
        }
    }

    // ---- promise 32: saveState

    private static void p32SlotTooSmall() {
        for (int slot : Values.below(0)) {
            Refused.outOfBounds("saveState(" + slot + ")", painter -> painter.saveState(slot));
        }
    }

    private static void p32SlotTooLarge() {
        for (int slot : Values.above(1)) {
            Refused.outOfBounds("saveState(" + slot + ")", painter -> painter.saveState(slot));
        }
    }

    private static void p32LeastAndGreatestSum() {
        FlakePainter painter = new FlakePainter();
        Check.due("saveState(0)", painter.saveState(0), 0);
        painter.invert();
        Check.due("saveState(1)", painter.saveState(1), 16320);
    }

    private static void p32OneSlotLeavesTheOtherEmpty() {
        FlakePainter first = new FlakePainter();
        first.saveState(0);
        Check.badState("loadState(1)", () -> first.loadState(1));
        FlakePainter last = new FlakePainter();
        last.saveState(1);
        Check.badState("loadState(0)", () -> last.loadState(0));
    }

    private static void p32OneSlotLeavesTheOtherFull() {
        for (int slot = 0; slot < 2; slot++) {
            FlakePainter painter = new FlakePainter();
            painter.setGrey(0, 9);
            painter.saveState(1 - slot);
            painter.setGrey(0, 10);
            painter.saveState(slot);
            Check.due("loadState of the other than " + slot, painter.loadState(1 - slot), 9);
        }
    }

    private static void p32WhatWasSavedIsReplaced() {
        for (int slot = 0; slot < 2; slot++) {
            FlakePainter painter = new FlakePainter();
            painter.invert();
            painter.turnWinding();
            painter.saveState(slot);
            painter.fill(0, 8, 8, 1);
            painter.turnWinding();
            Check.due("saveState " + slot, painter.saveState(slot), 64);
            painter.thaw(1);
            Check.due("loadState " + slot, painter.loadState(slot), 64);
            Check.due("cellAt(8)", painter.cellAt(8), 8);
        }
    }

    private static void p32IsNoChange() {
        FlakePainter painter = painterWithStates(1);
        painter.saveState(0);
        Check.due("undoCount", painter.undoCount(), 1);
        painter.undo();
        Check.due("greyOf(0)", painter.greyOf(0), 0);
    }

    private static void p32LaterChangesLeaveTheSlot() {
        for (int index = 0; index < CHANGES.length; index++) {
            FlakePainter painter = new FlakePainter();
            Refused.USED.make(painter);
            painter.saveState(0);
            String saved = Check.stateOf(painter);
            CHANGES[index].make(painter);
            painter.loadState(0);
            Check.sameState("after change " + index, painter, saved);
        }
    }

    // ---- promise 33: loadState

    private static void p33SlotTooSmall() {
        for (int slot : Values.below(0)) {
            Refused.outOfBounds("loadState(" + slot + ")", painter -> painter.loadState(slot));
        }
    }

    private static void p33SlotTooLarge() {
        for (int slot : Values.above(1)) {
            Refused.outOfBounds("loadState(" + slot + ")", painter -> painter.loadState(slot));
        }
    }

    private static void p33NothingWasSaved() {
        Refused.badState("slot 0", Refused.NEW, painter -> painter.loadState(0));
        Refused.badState("slot 1", Refused.NEW, painter -> painter.loadState(1));
        Refused.badState("slot 0, slot 1 is full", Refused.USED, painter -> painter.loadState(0));
        Refused.badState("slot 1, slot 0 is full", painter -> {
            painter.invert();
            painter.saveState(0);
        }, painter -> painter.loadState(1));
    }

    private static void p33TheSlotKeepsIt() {
        FlakePainter painter = new FlakePainter();
        painter.setGrey(0, 9);
        painter.saveState(0);
        painter.invert();
        for (int time = 0; time < 3; time++) {
            Check.due("loadState", painter.loadState(0), 9);
            painter.invert();
            painter.turnWinding();
        }
        Check.due("loadState at last", painter.loadState(0), 9);
        Check.due("cellAt(8)", painter.cellAt(8), 8);
    }

    private static void p33ChangesAfterwardsLeaveTheSlot() {
        for (int index = 0; index < CHANGES.length; index++) {
            FlakePainter painter = new FlakePainter();
            Refused.USED.make(painter);
            painter.saveState(0);
            String saved = Check.stateOf(painter);
            painter.invert();
            painter.loadState(0);
            CHANGES[index].make(painter);
            // The history needs a free place for sameState.
            painter.undo();
            painter.undo();
            painter.loadState(0);
            Check.sameState("after change " + index, painter, saved);
        }
    }

    private static void p33IsAChange() {
        FlakePainter painter = new FlakePainter();
        painter.saveState(0);
        painter.invert();
        Check.due("loadState", painter.loadState(0), 0);
        Check.due("undoCount", painter.undoCount(), 2);
        Check.due("undo", painter.undo(), 1);
        Check.due("greySum", painter.greySum(), 16320);
    }

    private static void p33OfWhatIsThereIsAChange() {
        FlakePainter painter = new FlakePainter();
        painter.saveState(1);
        painter.loadState(1);
        Check.due("undoCount", painter.undoCount(), 1);
    }

    private static void p33AllOfTheStateIsLoaded() {
        FlakePainter painter = new FlakePainter();
        painter.setRule(FlakePainter.CROSS);
        painter.setThreshold(200);
        painter.turnWinding();
        painter.fill(0, 8, 8, 30);
        painter.saveState(1);
        String saved = Check.stateOf(painter);
        painter.setThreshold(1);
        run(painter, "r0;w;i;t9;g0=0;g63=0");
        Check.due("loadState", painter.loadState(1), 1920);
        painter.undo();
        painter.undo();
        painter.loadState(1);
        Check.sameState("afterwards", painter, saved);
    }

    private static void p33TheTextAndTheHistoryAreNotLoaded() {
        FlakePainter painter = painterWithStates(1);
        painter.appendText('i');
        painter.saveState(0);
        painter.appendText('x');
        painter.setGrey(0, 2);
        painter.setGrey(0, 3);
        painter.loadState(0);
        Check.due("textLength", painter.textLength(), 2);
        Check.due("undoCount", painter.undoCount(), 4);
        painter.undo();
        Check.due("greyOf(0)", painter.greyOf(0), 3);
    }
}
