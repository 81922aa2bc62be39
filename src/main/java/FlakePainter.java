/** A painter who shows grey pictures with flakes that are there or not. */
public final class FlakePainter {
    public static final int NONE = -1;
    public static final int PLAIN = 0, CROSS = 1, FULL = 2, WIDE = 3;

    private static final int SIDE = 8;
    private static final int CELLS = 64;
    private static final int WHITE = 255;
    private static final int SQUARES = 16;
    private static final int RULES = 4;
    private static final int FIRST_THRESHOLD = 128;
    private static final int KEPT_STATES = 6;
    private static final int SLOTS = 2;
    private static final int WEIGHT_OF_ALL = 16;

    // The neighbours of all rules, one rule after the other: those of a rule
    // stand from FIRST_NEIGHBOUR[rule] to before FIRST_NEIGHBOUR[rule + 1].
    // The last one of a rule has no weight, since it gets what is left.
    private static final int[] FIRST_NEIGHBOUR = {0, 1, 3, 7, 12};
    private static final int[] DOWN = {0, 1, 0, 1, 1, 1, 0, 2, 1, 1, 0, 0};
    private static final int[] AHEAD = {1, 0, 1, 1, 0, -1, 1, 0, 1, 0, 2, 1};
    private static final int[] WEIGHT = {0, 8, 0, 1, 5, 3, 0, 2, 2, 4, 2, 0};

    private final Picture picture;
    private final Painting painting;
    private final History history;
    private final Picture[] slots;
    private final boolean[] saved;
    private final CommandText text;

    public FlakePainter() {
        picture = new Picture();
        painting = new Painting();
        history = new History();
        slots = new Picture[SLOTS];
        for (int slot = 0; slot < SLOTS; slot++) {
            slots[slot] = new Picture();
        }
        saved = new boolean[SLOTS];
        text = new CommandText();
    }

    // ---- changes

    public int setGrey(int cell, int grey) throws IndexOutOfBoundsException, IllegalArgumentException {
        requireCell(cell);
        requireArgument(isGrey(grey));
        history.keep(picture);
        return picture.putGrey(cell, grey);
    }

    public int shadeRow(int row, int first, int last) throws IndexOutOfBoundsException, IllegalArgumentException {
        requireIndex(row >= 0 && row < SIDE);
        requireArgument(isGrey(first) && isGrey(last));
        history.keep(picture);
        int sum = 0;
        for (int column = 0; column < SIDE; column++) {
            int grey = first + (last - first) * column / (SIDE - 1);
            picture.putGrey(SIDE * row + column, grey);
            sum += grey;
        }
        return sum;
    }

    public int fill(int cell, int height, int width, int grey)
            throws IndexOutOfBoundsException, IllegalArgumentException {
        requireCell(cell);
        requireArgument(isLengthOfSide(height) && isLengthOfSide(width) && isGrey(grey));
        history.keep(picture);
        int endRow = Math.min(cell / SIDE + height, SIDE);
        int endColumn = Math.min(cell % SIDE + width, SIDE);
        int altered = 0;
        for (int row = cell / SIDE; row < endRow; row++) {
            for (int column = cell % SIDE; column < endColumn; column++) {
                if (picture.putGrey(SIDE * row + column, grey) != grey) {
                    altered++;
                }
            }
        }
        return altered;
    }

    public int invert() {
        history.keep(picture);
        picture.turnOver();
        return picture.sumOfGreys();
    }

    public int thaw(int amount) throws IllegalArgumentException {
        requireArgument(isAmount(amount));
        history.keep(picture);
        picture.lessen(amount);
        return picture.cellsWithoutGrey();
    }

    public int setRule(int rule) throws IllegalArgumentException {
        requireArgument(isRule(rule));
        history.keep(picture);
        int previous = picture.rule;
        picture.rule = rule;
        return previous;
    }

    public int setThreshold(int threshold) throws IllegalArgumentException {
        requireArgument(threshold >= 1 && threshold <= WHITE);
        history.keep(picture);
        int previous = picture.threshold;
        picture.threshold = threshold;
        return previous;
    }

    public boolean turnWinding() {
        history.keep(picture);
        picture.winding = !picture.winding;
        return picture.winding;
    }

    // ---- the picture

    public int greyOf(int cell) throws IndexOutOfBoundsException {
        requireCell(cell);
        return picture.greys[cell];
    }

    public int greySum() {
        return picture.sumOfGreys();
    }

    public int cellAt(int step) throws IndexOutOfBoundsException {
        requireIndex(step >= 0 && step < CELLS);
        return picture.cellPaintedAt(step);
    }

    // ---- painting

    public long flakes() {
        paint();
        return painting.flakeMask;
    }

    public long flakesByCollecting() {
        painting.paintByCollecting(picture, picture.rule, picture.threshold);
        return painting.flakeMask;
    }

    public int flakeCount() {
        paint();
        return Long.bitCount(painting.flakeMask);
    }

    public int valueOf(int cell) throws IndexOutOfBoundsException {
        requireCell(cell);
        paint();
        return painting.values[cell];
    }

    public int errorOf(int cell) throws IndexOutOfBoundsException {
        requireCell(cell);
        paint();
        return painting.errors[cell];
    }

    public int lost() {
        paint();
        return painting.lostSum;
    }

    public int handedOn(int cell, int other) throws IndexOutOfBoundsException {
        requireCell(cell);
        requireCell(other);
        paint();
        int direction = picture.directionOfRow(cell / SIDE);
        int end = FIRST_NEIGHBOUR[picture.rule + 1];
        for (int neighbour = FIRST_NEIGHBOUR[picture.rule]; neighbour < end; neighbour++) {
            if (cellTowards(cell, neighbour, direction) == other) {
                return shareOf(painting.errors[cell], picture.rule, neighbour);
            }
        }
        return 0;
    }

    // ---- how well it is met

    public int squareError(int square) throws IndexOutOfBoundsException {
        requireIndex(square >= 0 && square < SQUARES);
        paint();
        return painting.differenceOfSquare(picture, square);
    }

    public int roughness() {
        return roughnessWith(picture.rule);
    }

    public int smoothestRule() {
        int best = PLAIN;
        int least = roughnessWith(PLAIN);
        for (int rule = PLAIN + 1; rule < RULES; rule++) {
            int difference = roughnessWith(rule);
            if (difference < least) {
                least = difference;
                best = rule;
            }
        }
        return best;
    }

    public int thresholdFor(int flakes) throws IllegalArgumentException {
        requireArgument(flakes >= 0 && flakes <= CELLS);
        // The number of flakes does not always fall when the threshold rises,
        // so each threshold is tried in turn.
        for (int threshold = 1; threshold <= WHITE; threshold++) {
            painting.paintByHandingOn(picture, picture.rule, threshold);
            if (Long.bitCount(painting.flakeMask) <= flakes) {
                return threshold;
            }
        }
        return NONE;
    }

    public double excess() {
        paint();
        double share = (double) Long.bitCount(painting.flakeMask) / 64.0;
        return share - (double) picture.sumOfGreys() / 16320.0;
    }

    // ---- the text

    public int appendText(long characters) throws IllegalArgumentException, IllegalStateException {
        int count = CommandText.countCharacters(characters);
        requireArgument(count != NONE);
        requireState(text.hasRoomFor(count));
        text.append(characters, count);
        return text.length;
    }

    public int clearText() {
        int previous = text.length;
        text.length = 0;
        return previous;
    }

    public int textLength() {
        return text.length;
    }

    public int textError() {
        return text.firstError();
    }

    public int runText() throws IllegalStateException {
        requireState(text.firstError() == NONE);
        history.keep(picture);
        int executed = executeCommands();
        text.length = 0;
        return executed;
    }

    // ---- undo, saved states

    public int undo() throws IllegalStateException {
        requireState(history.count > 0);
        history.takeBack(picture);
        return history.count;
    }

    public int undoCount() {
        return history.count;
    }

    public int saveState(int slot) throws IndexOutOfBoundsException {
        requireIndex(isSlot(slot));
        slots[slot].copyFrom(picture);
        saved[slot] = true;
        return picture.sumOfGreys();
    }

    public int loadState(int slot) throws IndexOutOfBoundsException, IllegalStateException {
        requireIndex(isSlot(slot));
        requireState(saved[slot]);
        history.keep(picture);
        picture.copyFrom(slots[slot]);
        return picture.sumOfGreys();
    }

    // ---- what the calls need

    private static boolean isCell(int cell) {
        return cell >= 0 && cell < CELLS;
    }

    private static boolean isGrey(int grey) {
        return grey >= 0 && grey <= WHITE;
    }

    private static boolean isAmount(int amount) {
        return amount >= 1 && amount <= WHITE;
    }

    private static boolean isRule(int rule) {
        return rule >= 0 && rule < RULES;
    }

    private static boolean isLengthOfSide(int length) {
        return length >= 1 && length <= SIDE;
    }

    private static boolean isSlot(int slot) {
        return slot >= 0 && slot < SLOTS;
    }

    private static void requireCell(int cell) {
        requireIndex(isCell(cell));
    }

    private static void requireIndex(boolean exists) {
        if (!exists) {
            throw new IndexOutOfBoundsException("there is no such cell, row, step, square or slot");
        }
    }

    private static void requireArgument(boolean allowed) {
        if (!allowed) {
            throw new IllegalArgumentException("an argument is out of range");
        }
    }

    private static void requireState(boolean ready) {
        if (!ready) {
            throw new IllegalStateException("the painter's state does not allow this call");
        }
    }

    private void paint() {
        painting.paintByHandingOn(picture, picture.rule, picture.threshold);
    }

    private int roughnessWith(int rule) {
        painting.paintByHandingOn(picture, rule, picture.threshold);
        return painting.differenceOfAllSquares(picture);
    }

    /** Executes the commands of a correct text up to the first one that fails; tells how many succeeded. */
    private int executeCommands() {
        int executed = 0;
        for (int index = 0; index < text.length; index++) {
            if (text.beginsCommand(index)) {
                if (!execute(index)) {
                    return executed;
                }
                executed++;
            }
        }
        return executed;
    }

    /** Executes the command that starts at an index of a correct text; tells whether it succeeded. */
    private boolean execute(int start) {
        switch (text.characterAt(start)) {
            case 'g':
                return executeGrey(text.numberAt(start + 1), text.numberAt(text.find('=', start) + 1));
            case 'i':
                picture.turnOver();
                return true;
            case 't':
                return executeThaw(text.numberAt(start + 1));
            case 'w':
                picture.winding = !picture.winding;
                return true;
            case 'r':
                return executeRule(text.numberAt(start + 1));
            default:
                return false;
        }
    }

    private boolean executeGrey(int cell, int grey) {
        if (!isCell(cell) || !isGrey(grey)) {
            return false;
        }
        picture.putGrey(cell, grey);
        return true;
    }

    private boolean executeThaw(int amount) {
        if (!isAmount(amount)) {
            return false;
        }
        picture.lessen(amount);
        return true;
    }

    private boolean executeRule(int rule) {
        if (!isRule(rule)) {
            return false;
        }
        picture.rule = rule;
        return true;
    }

    /** The cell that is a neighbour of a cell whose row is painted in a direction; NONE if it is outside. */
    private static int cellTowards(int cell, int neighbour, int direction) {
        return cellIn(cell / SIDE + DOWN[neighbour], cell % SIDE + AHEAD[neighbour] * direction);
    }

    private static int cellIn(int row, int column) {
        boolean inside = row >= 0 && row < SIDE && column >= 0 && column < SIDE;
        return inside ? SIDE * row + column : NONE;
    }

    /** What a neighbour of a rule gets of an error. */
    private static int shareOf(int error, int rule, int neighbour) {
        int last = FIRST_NEIGHBOUR[rule + 1] - 1;
        if (neighbour < last) {
            return error * WEIGHT[neighbour] / WEIGHT_OF_ALL;
        }
        int left = error;
        for (int other = FIRST_NEIGHBOUR[rule]; other < last; other++) {
            left -= error * WEIGHT[other] / WEIGHT_OF_ALL;
        }
        return left;
    }

    /** A state: all that undo and the slots bring back. */
    private static final class Picture {
        final int[] greys;
        int rule;
        int threshold;
        boolean winding;

        Picture() {
            greys = new int[CELLS];
            rule = FULL;
            threshold = FIRST_THRESHOLD;
        }

        void copyFrom(Picture other) {
            System.arraycopy(other.greys, 0, greys, 0, CELLS);
            rule = other.rule;
            threshold = other.threshold;
            winding = other.winding;
        }

        /** Puts a grey and answers the previous one. */
        int putGrey(int cell, int grey) {
            int previous = greys[cell];
            greys[cell] = grey;
            return previous;
        }

        void turnOver() {
            for (int cell = 0; cell < CELLS; cell++) {
                greys[cell] = WHITE - greys[cell];
            }
        }

        void lessen(int amount) {
            for (int cell = 0; cell < CELLS; cell++) {
                greys[cell] = Math.max(greys[cell] - amount, 0);
            }
        }

        int sumOfGreys() {
            int sum = 0;
            for (int cell = 0; cell < CELLS; cell++) {
                sum += greys[cell];
            }
            return sum;
        }

        int cellsWithoutGrey() {
            int count = 0;
            for (int cell = 0; cell < CELLS; cell++) {
                if (greys[cell] == 0) {
                    count++;
                }
            }
            return count;
        }

        /** 1 if a row is painted from the left to the right, -1 if from the right to the left. */
        int directionOfRow(int row) {
            return winding && row % 2 == 1 ? -1 : 1;
        }

        int cellPaintedAt(int step) {
            int row = step / SIDE;
            int column = step % SIDE;
            return SIDE * row + (directionOfRow(row) == 1 ? column : SIDE - 1 - column);
        }
    }

    /** The values, errors and flakes of the painting that was made last. */
    private static final class Painting {
        final int[] values;
        final int[] errors;
        long flakeMask;
        int lostSum;

        Painting() {
            values = new int[CELLS];
            errors = new int[CELLS];
        }

        void paintByHandingOn(Picture picture, int rule, int threshold) {
            System.arraycopy(picture.greys, 0, values, 0, CELLS);
            flakeMask = 0;
            lostSum = 0;
            for (int step = 0; step < CELLS; step++) {
                int cell = picture.cellPaintedAt(step);
                decide(cell, threshold);
                handOn(cell, rule, picture.directionOfRow(cell / SIDE));
            }
        }

        void paintByCollecting(Picture picture, int rule, int threshold) {
            flakeMask = 0;
            for (int step = 0; step < CELLS; step++) {
                int cell = picture.cellPaintedAt(step);
                values[cell] = picture.greys[cell] + collect(picture, cell, rule);
                decide(cell, threshold);
            }
        }

        private void decide(int cell, int threshold) {
            if (values[cell] >= threshold) {
                flakeMask |= 1L << cell;
                errors[cell] = values[cell] - WHITE;
            } else {
                errors[cell] = values[cell];
            }
        }

        private void handOn(int cell, int rule, int direction) {
            int end = FIRST_NEIGHBOUR[rule + 1];
            for (int neighbour = FIRST_NEIGHBOUR[rule]; neighbour < end; neighbour++) {
                int share = shareOf(errors[cell], rule, neighbour);
                int other = cellTowards(cell, neighbour, direction);
                if (other == NONE) {
                    lostSum += share;
                } else {
                    values[other] += share;
                }
            }
        }

        private int collect(Picture picture, int cell, int rule) {
            int sum = 0;
            int end = FIRST_NEIGHBOUR[rule + 1];
            for (int neighbour = FIRST_NEIGHBOUR[rule]; neighbour < end; neighbour++) {
                // What is ahead depends on the giver's row, which may be painted the other way.
                int row = cell / SIDE - DOWN[neighbour];
                int direction = row >= 0 ? picture.directionOfRow(row) : 1;
                int giver = cellIn(row, cell % SIDE - AHEAD[neighbour] * direction);
                if (giver != NONE) {
                    sum += shareOf(errors[giver], rule, neighbour);
                }
            }
            return sum;
        }

        int differenceOfSquare(Picture picture, int square) {
            int corner = SIDE * 2 * (square / 4) + 2 * (square % 4);
            return Math.abs(differenceOf(picture, corner) + differenceOf(picture, corner + 1)
                    + differenceOf(picture, corner + SIDE) + differenceOf(picture, corner + SIDE + 1));
        }

        private int differenceOf(Picture picture, int cell) {
            boolean flake = (flakeMask >>> cell & 1L) == 1L;
            return flake ? picture.greys[cell] - WHITE : picture.greys[cell];
        }

        int differenceOfAllSquares(Picture picture) {
            int sum = 0;
            for (int square = 0; square < SQUARES; square++) {
                sum += differenceOfSquare(picture, square);
            }
            return sum;
        }
    }

    /** The latest recorded states, the oldest one first. */
    private static final class History {
        final Picture[] states;
        int count;

        History() {
            states = new Picture[KEPT_STATES];
            for (int index = 0; index < KEPT_STATES; index++) {
                states[index] = new Picture();
            }
        }

        void keep(Picture picture) {
            if (count == KEPT_STATES) {
                dropOldest();
            }
            states[count].copyFrom(picture);
            count++;
        }

        private void dropOldest() {
            // The dropped state's object goes to the end, so that no new one is needed.
            Picture oldest = states[0];
            for (int index = 1; index < KEPT_STATES; index++) {
                states[index - 1] = states[index];
            }
            states[KEPT_STATES - 1] = oldest;
            count--;
        }

        void takeBack(Picture picture) {
            if (count > 0) {
                count--;
                picture.copyFrom(states[count]);
            }
        }
    }

    /** The text with its grammar. */
    private static final class CommandText {
        private static final int LONGEST = 80;
        private static final int MOST_AT_ONCE = 8;
        private static final int LOWEST_CODE = 33, HIGHEST_CODE = 126;

        // Where a reader stands in the grammar, told by what it awaits.
        private static final int COMMAND = 0;
        private static final int CELL = 1, SECOND_OF_CELL = 2, THIRD_OF_CELL = 3, EQUALS = 4;
        private static final int GREY = 5, SECOND_OF_GREY = 6, THIRD_OF_GREY = 7;
        private static final int RULE = 8, SEMICOLON = 9;

        final char[] characters;
        int length;

        CommandText() {
            characters = new char[LONGEST];
        }

        /** How many characters a number holds; NONE if it holds none or anything else. */
        static int countCharacters(long packed) {
            long rest = packed;
            int count = 0;
            while (count < MOST_AT_ONCE && (rest & 255L) != 0) {
                long code = rest & 255L;
                if (code < LOWEST_CODE || code > HIGHEST_CODE) {
                    return NONE;
                }
                rest >>>= 8;
                count++;
            }
            return count == 0 || rest != 0 ? NONE : count;
        }

        boolean hasRoomFor(int count) {
            return length + count <= LONGEST;
        }

        void append(long packed, int count) {
            for (int group = count - 1; group >= 0 && length < LONGEST; group--) {
                characters[length] = (char) (packed >>> 8 * group & 255L);
                length++;
            }
        }

        int firstError() {
            int awaited = COMMAND;
            for (int index = 0; index < length; index++) {
                awaited = awaitedAfter(awaited, characters[index]);
                if (awaited == NONE) {
                    return index;
                }
            }
            boolean complete = awaited == SEMICOLON || awaited == SECOND_OF_GREY || awaited == THIRD_OF_GREY;
            return complete ? NONE : length;
        }

        /** What is awaited after a character; NONE if the character cannot stand here. */
        private static int awaitedAfter(int awaited, char character) {
            switch (awaited) {
                case COMMAND:
                    return awaitedAfterCommand(character);
                case CELL:
                    return awaitedInNumber(character, EQUALS, SECOND_OF_CELL);
                case SECOND_OF_CELL:
                    return character == '=' ? GREY : awaitedAfterDigit(character, THIRD_OF_CELL);
                case THIRD_OF_CELL:
                    return character == '=' ? GREY : awaitedAfterDigit(character, EQUALS);
                case EQUALS:
                    return character == '=' ? GREY : NONE;
                case GREY:
                    return awaitedInNumber(character, SEMICOLON, SECOND_OF_GREY);
                case SECOND_OF_GREY:
                    return character == ';' ? COMMAND : awaitedAfterDigit(character, THIRD_OF_GREY);
                case THIRD_OF_GREY:
                    return character == ';' ? COMMAND : awaitedAfterDigit(character, SEMICOLON);
                case RULE:
                    return awaitedAfterDigit(character, SEMICOLON);
                default:
                    return character == ';' ? COMMAND : NONE;
            }
        }

        private static int awaitedAfterCommand(char character) {
            switch (character) {
                case 'g':
                    return CELL;
                case 't':
                    return GREY;
                case 'r':
                    return RULE;
                case 'i':
                case 'w':
                    return SEMICOLON;
                default:
                    return NONE;
            }
        }

        /** A number's first digit: a 0 ends the number, since it may not lead others. */
        private static int awaitedInNumber(char character, int afterZero, int afterOther) {
            return character == '0' ? afterZero : awaitedAfterDigit(character, afterOther);
        }

        private static int awaitedAfterDigit(char character, int next) {
            return isDigit(character) ? next : NONE;
        }

        private static boolean isDigit(char character) {
            return character >= '0' && character <= '9';
        }

        char characterAt(int index) {
            return index >= 0 && index < length ? characters[index] : ' ';
        }

        boolean beginsCommand(int index) {
            return index == 0 || characterAt(index - 1) == ';';
        }

        /** The index of the first such character from an index on; the length if there is none. */
        int find(char character, int from) {
            int index = Math.max(from, 0);
            while (index < length && characters[index] != character) {
                index++;
            }
            return index;
        }

        /** The number whose first digit is at an index. */
        int numberAt(int from) {
            int number = 0;
            int index = Math.max(from, 0);
            while (index < length && isDigit(characters[index])) {
                number = 10 * number + (characters[index] - '0');
                index++;
            }
            return number;
        }
    }
}
