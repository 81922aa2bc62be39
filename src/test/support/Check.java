/** Counts and prints the answers that are not as due. */
final class Check {
    private static int wrong = 0;
    private static int asked = 0;
    private static String test = "";

    private Check() {
    }

    interface Call {
        long answer();
    }

    /** Every wrong answer from now on is told with this before it. */
    static void inTest(String name) {
        test = name;
    }

    static void due(String what, long got, long want) {
        asked++;
        if (got != want) {
            report(what + " answered " + got + ", due is " + want);
        }
    }

    static void due(String what, boolean got, boolean want) {
        due(what, got ? 1 : 0, want ? 1 : 0);
    }

    static void dueDouble(String what, double got, double want) {
        asked++;
        if (got != want) {
            report(what + " answered " + got + ", due is " + want);
        }
    }

    static void dueText(String what, String got, String want) {
        asked++;
        if (!got.equals(want)) {
            report(what + " is " + got + ", due is " + want);
        }
    }

    static void outOfBounds(String what, Call call) {
        dueThrown(what, call, IndexOutOfBoundsException.class);
    }

    static void badArgument(String what, Call call) {
        dueThrown(what, call, IllegalArgumentException.class);
    }

    static void badState(String what, Call call) {
        dueThrown(what, call, IllegalStateException.class);
    }

    static void dueThrown(String what, Call call, Class<? extends RuntimeException> due) {
        asked++;
        try {
            report(what + " answered " + call.answer() + ", due is " + due.getSimpleName());
        } catch (RuntimeException thrown) {
            // The very class: a subclass would be an exception of the machine's own.
            if (thrown.getClass() != due) {
                report(what + " threw " + thrown + ", due is " + due.getSimpleName());
            }
        }
    }

    static void report(String line) {
        wrong++;
        if (wrong <= 40) {
            System.out.println(test + line);
        }
    }

    /** Ends the program, with exit code 1 if an answer was wrong. */
    static void end() {
        System.out.println(asked + " checks, " + wrong + " wrong");
        if (wrong != 0 || asked == 0) {
            System.exit(1);
        }
    }

    // ---- what many tests need

    /** Appends a text of any length, eight characters at a time. */
    static void append(FlakePainter painter, String text) {
        for (int start = 0; start < text.length(); start += 8) {
            painter.appendText(packed(text.substring(start, Math.min(start + 8, text.length()))));
        }
    }

    static long packed(String text) {
        long packed = 0;
        for (int index = 0; index < text.length(); index++) {
            packed = packed << 8 | text.charAt(index);
        }
        return packed;
    }

    /** The rule, the threshold and winding are told by changes that are undone at once; needs a free place in the history. */
    static String stateOf(FlakePainter painter) {
        StringBuilder state = new StringBuilder();
        for (int cell = 0; cell < 64; cell++) {
            state.append(painter.greyOf(cell)).append(' ');
        }
        state.append("winding ").append(painter.cellAt(8) == 15);
        if (painter.undoCount() < 6) {
            state.append(" rule ").append(painter.setRule(0));
            painter.undo();
            state.append(" threshold ").append(painter.setThreshold(1));
            painter.undo();
        }
        return state.toString();
    }

    static void sameState(String what, FlakePainter painter, String want) {
        dueText(what + ": the state", stateOf(painter), want);
    }
}
