/** Long runs of calls, wrong ones too, whose answers are those of the model. */
public final class ModelTest {
    private static final int RUNS = 120;
    private static final int CALLS = 512;

    private static long seed = 1;

    private final FlakePainter painter = new FlakePainter();
    private final Model model = new Model();
    private final int number;

    private ModelTest(int number) {
        this.number = number;
    }

    public static void main(String[] args) {
        for (int run = 0; run < RUNS; run++) {
            ModelTest test = new ModelTest(run);
            for (int call = 0; call < CALLS; call++) {
                test.call(call);
            }
        }
        Check.end();
    }

    /** The same numbers each time, so that a failure can be had again. */
    private static int below(int bound) {
        seed = seed * 6364136223846793005L + 1442695040888963407L;
        return (int) ((seed >>> 33) % bound);
    }

    /** Mostly a number from low to high, now and then one beside that or far off. */
    private static int around(int low, int high) {
        switch (below(24)) {
            case 0:
                return low - 1;
            case 1:
                return high + 1;
            case 2:
                return below(2) == 0 ? Integer.MIN_VALUE + below(9) : Integer.MAX_VALUE - below(9);
            case 3:
                return low;
            case 4:
                return high;
            default:
                return low + below(high - low + 1);
        }
    }

    private void call(int call) {
        String where = "run " + number + " call " + call + ": ";
        int kind = below(100);
        if (kind < 30) {
            change(where, below(9));
        } else if (kind < 66) {
            ask(where, below(12));
        } else if (kind < 86) {
            text(where, below(8));
        } else if (kind < 95) {
            history(where, below(5));
        } else {
            weigh(where);
        }
    }

    private void due(String what, Class<?> thrown, Check.Call call, long want) {
        if (thrown == IndexOutOfBoundsException.class) {
            Check.outOfBounds(what, call);
        } else if (thrown == IllegalArgumentException.class) {
            Check.badArgument(what, call);
        } else if (thrown == IllegalStateException.class) {
            Check.badState(what, call);
        } else {
            Check.due(what, call.answer(), want);
        }
    }

    private static Class<?> thrown(boolean index, boolean argument, boolean state) {
        if (!index) {
            return IndexOutOfBoundsException.class;
        }
        if (!argument) {
            return IllegalArgumentException.class;
        }
        return state ? null : IllegalStateException.class;
    }

    private static boolean in(int number, int low, int high) {
        return number >= low && number <= high;
    }

    private void change(String where, int kind) {
        switch (kind) {
            case 0:
                setGrey(where, around(0, 63), around(0, 255));
                break;
            case 1:
                shadeRow(where, around(0, 7), around(0, 255), around(0, 255));
                break;
            case 2:
                fill(where, around(0, 63), around(1, 8), around(1, 8), around(0, 255));
                break;
            case 3:
                model.change(Model.inverted(model.now));
                Check.due(where + "invert", painter.invert(), Model.sum(model.now));
                break;
            case 4:
                thaw(where, below(3) == 0 ? around(1, 255) : around(1, 40));
                break;
            case 5:
                setRule(where, around(0, 3));
                break;
            case 6:
                setThreshold(where, around(1, 255));
                break;
            case 7:
                model.change(Model.wound(model.now));
                Check.due(where + "turnWinding", painter.turnWinding(), model.now.winding());
                break;
            default:
                shadeRow(where, below(8), below(256), below(256));
                break;
        }
    }

    private void setGrey(String where, int cell, int grey) {
        Class<?> thrown = thrown(in(cell, 0, 63), in(grey, 0, 255), true);
        int previous = 0;
        if (thrown == null) {
            previous = model.now.greys()[cell];
            model.change(Model.withGrey(model.now, cell, grey));
        }
        due(where + "setGrey " + cell + " " + grey, thrown, () -> painter.setGrey(cell, grey), previous);
    }

    private void shadeRow(String where, int row, int first, int last) {
        Class<?> thrown = thrown(in(row, 0, 7), in(first, 0, 255) && in(last, 0, 255), true);
        int sum = 0;
        if (thrown == null) {
            model.change(model.shaded(row, first, last));
            for (int column = 0; column < 8; column++) {
                sum += model.now.greys()[8 * row + column];
            }
        }
        due(where + "shadeRow " + row + " " + first + " " + last, thrown, () -> painter.shadeRow(row, first, last), sum);
    }

    private void fill(String where, int cell, int height, int width, int grey) {
        boolean allowed = in(height, 1, 8) && in(width, 1, 8) && in(grey, 0, 255);
        Class<?> thrown = thrown(in(cell, 0, 63), allowed, true);
        int altered = 0;
        if (thrown == null) {
            int[] before = model.now.greys();
            model.change(model.filled(cell, height, width, grey));
            for (int other = 0; other < 64; other++) {
                altered += before[other] != model.now.greys()[other] ? 1 : 0;
            }
        }
        due(where + "fill " + cell + " " + height + " " + width + " " + grey, thrown,
            () -> painter.fill(cell, height, width, grey), altered);
    }

    private void thaw(String where, int amount) {
        Class<?> thrown = thrown(true, in(amount, 1, 255), true);
        int none = 0;
        if (thrown == null) {
            model.change(Model.thawed(model.now, amount));
            for (int grey : model.now.greys()) {
                none += grey == 0 ? 1 : 0;
            }
        }
        due(where + "thaw " + amount, thrown, () -> painter.thaw(amount), none);
    }

    private void setRule(String where, int rule) {
        Class<?> thrown = thrown(true, in(rule, 0, 3), true);
        int previous = model.now.rule();
        if (thrown == null) {
            model.change(Model.withRule(model.now, rule));
        }
        due(where + "setRule " + rule, thrown, () -> painter.setRule(rule), previous);
    }

    private void setThreshold(String where, int threshold) {
        Class<?> thrown = thrown(true, in(threshold, 1, 255), true);
        int previous = model.now.threshold();
        if (thrown == null) {
            model.change(Model.withThreshold(model.now, threshold));
        }
        due(where + "setThreshold " + threshold, thrown, () -> painter.setThreshold(threshold), previous);
    }

    private void ask(String where, int kind) {
        Model.Painted painted = Model.paint(model.now);
        int cell = around(0, 63);
        Class<?> thrown = thrown(in(cell, 0, 63), true, true);
        int known = thrown == null ? cell : 0;
        switch (kind) {
            case 0:
                due(where + "greyOf " + cell, thrown, () -> painter.greyOf(cell), model.now.greys()[known]);
                break;
            case 1:
                Check.due(where + "greySum", painter.greySum(), Model.sum(model.now));
                break;
            case 2:
                due(where + "cellAt " + cell, thrown, () -> painter.cellAt(cell), Model.order(model.now).get(known));
                break;
            case 3:
                Check.due(where + "flakes", painter.flakes(), painted.mask());
                break;
            case 4:
                Check.due(where + "flakesByCollecting", painter.flakesByCollecting(), painted.mask());
                break;
            case 5:
                Check.due(where + "flakeCount", painter.flakeCount(), painted.count());
                break;
            case 6:
                due(where + "valueOf " + cell, thrown, () -> painter.valueOf(cell), painted.values[known]);
                break;
            case 7:
                due(where + "errorOf " + cell, thrown, () -> painter.errorOf(cell), painted.errors[known]);
                break;
            case 8:
                Check.due(where + "lost", painter.lost(), painted.given(-1, Model.OUTSIDE));
                break;
            case 9:
                handedOn(where, painted, cell, around(0, 63));
                break;
            case 10:
                handedOn(where, painted, known, near(known));
                break;
            default:
                int square = around(0, 15);
                due(where + "squareError " + square, thrown(in(square, 0, 15), true, true),
                    () -> painter.squareError(square), Model.squareError(model.now, painted, square));
                break;
        }
    }

    private static int near(int cell) {
        return Math.min(63, Math.max(0, cell + 8 * below(3) + below(5) - 2));
    }

    private void handedOn(String where, Model.Painted painted, int cell, int other) {
        Class<?> thrown = thrown(in(cell, 0, 63) && in(other, 0, 63), true, true);
        due(where + "handedOn " + cell + " " + other, thrown, () -> painter.handedOn(cell, other), painted.given(cell, other));
    }

    private void weigh(String where) {
        switch (below(5)) {
            case 0:
                Check.due(where + "roughness", painter.roughness(), Model.roughness(model.now));
                break;
            case 1:
                Check.due(where + "smoothestRule", painter.smoothestRule(), model.smoothestRule());
                break;
            case 2:
                double share = Model.paint(model.now).count() / 64.0;
                Check.dueDouble(where + "excess", painter.excess(), share - Model.sum(model.now) / 16320.0);
                break;
            default:
                int flakes = below(2) == 0 ? around(0, 64) : Math.max(0, Model.paint(model.now).count() - below(6));
                Class<?> thrown = thrown(true, in(flakes, 0, 64), true);
                due(where + "thresholdFor " + flakes, thrown, () -> painter.thresholdFor(flakes),
                    thrown == null ? model.thresholdFor(flakes) : 0);
                break;
        }
    }

    private void text(String where, int kind) {
        switch (kind) {
            case 0:
                append(where, garbledCharacters());
                break;
            case 1:
                Check.due(where + "textLength", painter.textLength(), model.text.length());
                break;
            case 2:
                Check.due(where + "textError", painter.textError(), model.textError());
                break;
            case 3:
            case 4:
                Class<?> thrown = thrown(true, true, model.textError() == -1);
                String what = where + "runText of " + model.text;
                due(what, thrown, painter::runText, thrown == null ? model.runText() : 0);
                break;
            case 5:
                if (below(4) == 0) {
                    Check.due(where + "clearText", painter.clearText(), model.text.length());
                    model.text = "";
                }
                break;
            default:
                append(where, Check.packed(commandToAppend()));
                break;
        }
    }

    private String commandToAppend() {
        boolean between = model.text.isEmpty() || model.text.endsWith(";");
        String command = between ? "" : ";";
        switch (below(6)) {
            case 0:
                return command + "i";
            case 1:
                return command + "w";
            case 2:
                return command + "t" + below(below(3) == 0 ? 300 : 30);
            case 3:
                return command + "r" + below(5);
            case 4:
                return command + "g" + below(70) + "=" + below(100);
            default:
                return "g" + below(64) + "=" + below(260);
        }
    }

    private static long garbledCharacters() {
        String signs = "gitwr=;0123456789";
        long packed = 0;
        int count = below(9);
        for (int index = 0; index < count; index++) {
            packed = packed << 8 | signs.charAt(below(signs.length()));
        }
        if (below(3) == 0) {
            packed ^= (long) below(256) << 8 * below(8);
        }
        return packed;
    }

    private void append(String where, long packed) {
        String characters = unpacked(packed);
        boolean room = characters == null || model.text.length() + characters.length() <= 80;
        Class<?> thrown = thrown(true, characters != null, room);
        if (thrown == null) {
            model.text += characters;
        }
        due(where + "appendText " + packed, thrown, () -> painter.appendText(packed), model.text.length());
    }

    /** The characters of a number; null if it is no such number. */
    private static String unpacked(long packed) {
        String digits = String.format("%016x", packed);
        String characters = "";
        boolean begun = false;
        for (int group = 0; group < 8; group++) {
            int code = Integer.parseInt(digits.substring(2 * group, 2 * group + 2), 16);
            begun |= code != 0;
            if (begun && (code < 33 || code > 126)) {
                return null;
            }
            if (begun) {
                characters += (char) code;
            }
        }
        return characters.isEmpty() ? null : characters;
    }

    private void history(String where, int kind) {
        int slot = around(0, 1);
        boolean exists = in(slot, 0, 1);
        switch (kind) {
            case 0:
            case 1:
                Class<?> undone = thrown(true, true, !model.history.isEmpty());
                if (undone == null) {
                    model.now = model.history.removeLast();
                }
                due(where + "undo", undone, painter::undo, model.history.size());
                break;
            case 2:
                Check.due(where + "undoCount", painter.undoCount(), model.history.size());
                break;
            case 3:
                if (exists) {
                    model.slots[slot] = model.now;
                }
                due(where + "saveState " + slot, thrown(exists, true, true), () -> painter.saveState(slot),
                    Model.sum(model.now));
                break;
            default:
                Class<?> loaded = thrown(exists, true, exists && model.slots[slot] != null);
                if (loaded == null) {
                    model.change(model.slots[slot]);
                }
                due(where + "loadState " + slot, loaded, () -> painter.loadState(slot), Model.sum(model.now));
                break;
        }
    }
}
