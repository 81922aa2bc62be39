import java.util.ArrayDeque;
import java.util.ArrayList;
import java.util.Deque;
import java.util.List;
import java.util.regex.Matcher;
import java.util.regex.Pattern;

/**
 * The document once more, written as unlike the program as can be: states
 * that are never altered, painting by a ledger of what was handed on, the
 * grammar as a regular expression. It is slow, and it takes right arguments
 * alone.
 */
final class Model {
    record State(int[] greys, int rule, int threshold, boolean winding) {
        State withGreys(int[] other) {
            return new State(other, rule, threshold, winding);
        }
    }

    record Gift(int from, int to, int amount) {
    }

    static final int OUTSIDE = -9;

    private static final int[][][] RULES = {
        {{0, 1, 16}},
        {{1, 0, 8}, {0, 1, 8}},
        {{1, 1, 1}, {1, 0, 5}, {1, -1, 3}, {0, 1, 7}},
        {{2, 0, 2}, {1, 1, 2}, {1, 0, 4}, {0, 2, 2}, {0, 1, 6}},
    };

    private static final String NUMBER = "(0|[1-9][0-9]{0,2})";
    private static final String COMMAND = "(g" + NUMBER + "=" + NUMBER + "|i|t" + NUMBER + "|w|r[0-9])";
    private static final Pattern TEXT = Pattern.compile(COMMAND + "(;" + COMMAND + ")*");

    State now = new State(new int[64], 2, 128, false);
    String text = "";
    final Deque<State> history = new ArrayDeque<>();
    final State[] slots = new State[2];

    // ---- changes

    void record() {
        history.addLast(now);
        if (history.size() > 6) {
            history.removeFirst();
        }
    }

    void change(State next) {
        record();
        now = next;
    }

    State filled(int cell, int height, int width, int grey) {
        int[] greys = now.greys().clone();
        for (int other = 0; other < 64; other++) {
            int down = other / 8 - cell / 8;
            int right = other % 8 - cell % 8;
            if (down >= 0 && down < height && right >= 0 && right < width) {
                greys[other] = grey;
            }
        }
        return now.withGreys(greys);
    }

    State shaded(int row, int first, int last) {
        int[] greys = now.greys().clone();
        for (int cell = 0; cell < 64; cell++) {
            if (cell / 8 == row) {
                greys[cell] = first + (int) ((last - first) * (cell % 8) / 7.0 + Math.signum(last - first) * 1e-9);
            }
        }
        return now.withGreys(greys);
    }

    static State inverted(State state) {
        int[] greys = new int[64];
        for (int cell = 0; cell < 64; cell++) {
            greys[cell] = 255 - state.greys()[cell];
        }
        return state.withGreys(greys);
    }

    static State thawed(State state, int amount) {
        int[] greys = new int[64];
        for (int cell = 0; cell < 64; cell++) {
            int grey = state.greys()[cell];
            greys[cell] = grey < amount ? 0 : grey - amount;
        }
        return state.withGreys(greys);
    }

    static State withGrey(State state, int cell, int grey) {
        int[] greys = state.greys().clone();
        greys[cell] = grey;
        return state.withGreys(greys);
    }

    static State withRule(State state, int rule) {
        return new State(state.greys(), rule, state.threshold(), state.winding());
    }

    static State withThreshold(State state, int threshold) {
        return new State(state.greys(), state.rule(), threshold, state.winding());
    }

    static State wound(State state) {
        return new State(state.greys(), state.rule(), state.threshold(), !state.winding());
    }

    // ---- painting

    static int sum(State state) {
        int sum = 0;
        for (int grey : state.greys()) {
            sum += grey;
        }
        return sum;
    }

    static List<Integer> order(State state) {
        List<Integer> order = new ArrayList<>();
        for (int row = 0; row < 8; row++) {
            for (int column = 0; column < 8; column++) {
                boolean back = state.winding() && (row == 1 || row == 3 || row == 5 || row == 7);
                order.add(back ? 8 * row + 7 - column : 8 * row + column);
            }
        }
        return order;
    }

    static final class Painted {
        final int[] values = new int[64];
        final int[] errors = new int[64];
        final boolean[] flakes = new boolean[64];
        final List<Gift> ledger = new ArrayList<>();

        long mask() {
            long mask = 0;
            for (int cell = 63; cell >= 0; cell--) {
                mask = 2 * mask + (flakes[cell] ? 1 : 0);
            }
            return mask;
        }

        int count() {
            int count = 0;
            for (boolean flake : flakes) {
                count += flake ? 1 : 0;
            }
            return count;
        }

        int given(int from, int to) {
            int sum = 0;
            for (Gift gift : ledger) {
                if ((from < 0 || gift.from() == from) && gift.to() == to) {
                    sum += gift.amount();
                }
            }
            return sum;
        }
    }

    static Painted paint(State state) {
        Painted painted = new Painted();
        int[][] rule = RULES[state.rule()];
        for (int cell : order(state)) {
            int value = state.greys()[cell] + painted.given(-1, cell);
            boolean flake = value >= state.threshold();
            int error = flake ? value - 255 : value;
            painted.values[cell] = value;
            painted.flakes[cell] = flake;
            painted.errors[cell] = error;
            int step = state.winding() && cell / 8 % 2 != 0 ? -1 : 1;
            int left = error;
            for (int index = 0; index < rule.length; index++) {
                int[] neighbour = rule[index];
                int amount = index == rule.length - 1 ? left : towardZero(error * neighbour[2], 16);
                left -= amount;
                int row = cell / 8 + neighbour[0];
                int column = cell % 8 + neighbour[1] * step;
                boolean inside = row <= 7 && column >= 0 && column <= 7;
                painted.ledger.add(new Gift(cell, inside ? row * 8 + column : OUTSIDE, amount));
            }
        }
        return painted;
    }

    private static int towardZero(int number, int divisor) {
        int size = Math.floorDiv(Math.abs(number), divisor);
        return number < 0 ? -size : size;
    }

    static int squareError(State state, Painted painted, int square) {
        int difference = 0;
        for (int cell = 0; cell < 64; cell++) {
            if (cell / 8 / 2 == square / 4 && cell % 8 / 2 == square % 4) {
                difference += state.greys()[cell] - (painted.flakes[cell] ? 255 : 0);
            }
        }
        return Math.abs(difference);
    }

    static int roughness(State state) {
        Painted painted = paint(state);
        int sum = 0;
        for (int square = 0; square < 16; square++) {
            sum += squareError(state, painted, square);
        }
        return sum;
    }

    int smoothestRule() {
        int[] all = new int[4];
        for (int rule = 0; rule < 4; rule++) {
            all[rule] = roughness(withRule(now, rule));
        }
        for (int rule = 0; rule < 4; rule++) {
            boolean least = true;
            for (int other : all) {
                least &= all[rule] <= other;
            }
            if (least) {
                return rule;
            }
        }
        throw new AssertionError("there is always a least one");
    }

    int thresholdFor(int flakes) {
        for (int threshold = 1; threshold < 256; threshold++) {
            if (paint(withThreshold(now, threshold)).count() <= flakes) {
                return threshold;
            }
        }
        return -1;
    }

    // ---- the text

    int textError() {
        Matcher whole = TEXT.matcher(text);
        if (whole.matches()) {
            return -1;
        }
        for (int end = 1; end <= text.length(); end++) {
            Matcher start = TEXT.matcher(text.substring(0, end));
            if (!start.matches() && !start.hitEnd()) {
                return end - 1;
            }
        }
        return text.length();
    }

    int runText() {
        record();
        int executed = 0;
        for (String command : text.split(";")) {
            State next = executed(command);
            if (next == null) {
                break;
            }
            now = next;
            executed++;
        }
        text = "";
        return executed;
    }

    /** The state after a command; null if the command fails. */
    private State executed(String command) {
        String rest = command.substring(1);
        switch (command.charAt(0)) {
            case 'i':
                return inverted(now);
            case 'w':
                return wound(now);
            case 't':
                int amount = Integer.parseInt(rest);
                return amount == 0 || amount > 255 ? null : thawed(now, amount);
            case 'r':
                int rule = Integer.parseInt(rest);
                return rule > 3 ? null : withRule(now, rule);
            default:
                String[] both = rest.split("=");
                int cell = Integer.parseInt(both[0]);
                int grey = Integer.parseInt(both[1]);
                return cell > 63 || grey > 255 ? null : withGrey(now, cell, grey);
        }
    }
}
