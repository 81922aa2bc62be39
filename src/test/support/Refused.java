/**
 * Checks that a call is refused with the exception that is due, and that it
 * leaves all as it was: a twin that never got the call answers the same then.
 */
final class Refused {
    interface Calls {
        void make(FlakePainter painter);
    }

    /** Nothing was done before. */
    static final Calls NEW = painter -> { };

    /** Some of all was done before: there is room in the history and in the text, and slot 0 is empty. */
    static final Calls USED = painter -> {
        painter.shadeRow(1, 20, 250);
        painter.saveState(1);
        painter.fill(35, 4, 4, 130);
        painter.invert();
        Check.append(painter, "g7=12;w;t9");
    };

    /** The history, the text and the slots are full, and no setting is as at first. */
    static final Calls FULL = painter -> {
        painter.shadeRow(0, 255, 3);
        painter.shadeRow(6, 7, 199);
        painter.saveState(0);
        painter.setRule(FlakePainter.WIDE);
        painter.saveState(1);
        painter.setThreshold(77);
        painter.turnWinding();
        painter.setGrey(63, 255);
        painter.thaw(1);
        painter.setGrey(0, 254);
        for (int times = 0; times < 10; times++) {
            Check.append(painter, times < 9 ? "g63=255;" : "g63=25;i");
        }
    };

    private static final int VIEWS = 6;

    private Refused() {
    }

    static void outOfBounds(String what, Calls call) {
        everywhere(what, call, IndexOutOfBoundsException.class);
    }

    static void badArgument(String what, Calls call) {
        everywhere(what, call, IllegalArgumentException.class);
    }

    private static void everywhere(String what, Calls call, Class<? extends RuntimeException> due) {
        after("new, " + what, NEW, call, due);
        after("used, " + what, USED, call, due);
        after("full, " + what, FULL, call, due);
    }

    static void badState(String what, Calls before, Calls call) {
        after(what, before, call, IllegalStateException.class);
    }

    static void after(String what, Calls before, Calls call, Class<? extends RuntimeException> due) {
        for (int view = 0; view < VIEWS; view++) {
            FlakePainter painter = new FlakePainter();
            before.make(painter);
            Check.dueThrown(what, () -> {
                call.make(painter);
                return 0;
            }, due);
            FlakePainter twin = new FlakePainter();
            before.make(twin);
            Check.dueText(what + ", view " + view + " afterwards", seen(view, painter), seen(view, twin));
        }
    }

    /** What can be seen of a painter in one way; looking may alter it, so each view has a painter of its own. */
    private static String seen(int view, FlakePainter painter) {
        switch (view) {
            case 0:
                return "undoCount " + painter.undoCount() + " length " + painter.textLength()
                    + " error " + painter.textError() + " state " + state(painter);
            case 1:
                return slot(painter, 0);
            case 2:
                return slot(painter, 1);
            case 3:
                return history(painter);
            case 4:
                return text(painter, "");
            default:
                return text(painter, "1=1;i");
        }
    }

    private static String state(FlakePainter painter) {
        StringBuilder state = new StringBuilder();
        for (int cell = 0; cell < 64; cell++) {
            state.append(painter.greyOf(cell)).append(' ');
        }
        state.append(painter.cellAt(8)).append(' ').append(painter.flakes());
        state.append(" rule ").append(painter.setRule(0));
        state.append(" threshold ").append(painter.setThreshold(1));
        return state.toString();
    }

    private static String slot(FlakePainter painter, int slot) {
        try {
            painter.loadState(slot);
        } catch (IllegalStateException thrown) {
            return "empty";
        }
        return state(painter);
    }

    private static String history(FlakePainter painter) {
        StringBuilder history = new StringBuilder();
        for (int left = painter.undoCount(); left > 0; left--) {
            history.append(painter.undo()).append(": ");
            for (int cell = 0; cell < 64; cell++) {
                history.append(painter.greyOf(cell)).append(' ');
            }
            history.append(painter.cellAt(8)).append(' ').append(painter.flakes()).append(' ');
        }
        return history.append(state(painter)).toString();
    }

    /** What becomes of the text with an ending. */
    private static String text(FlakePainter painter, String ending) {
        try {
            Check.append(painter, ending);
        } catch (IllegalStateException thrown) {
            return "no room";
        }
        int error = painter.textError();
        try {
            return error + " runs " + painter.runText() + " " + state(painter);
        } catch (IllegalStateException thrown) {
            return error + " does not run";
        }
    }
}
