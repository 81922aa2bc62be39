/** The edges of promises 20 to 24, each in a test of its own. */
public final class MetEdgesTest {
    public static void main(String[] args) throws IllegalAccessException {
        Promises.test(MetEdgesTest.class, 20, 24);
    }

    private static FlakePainter plain() {
        FlakePainter painter = new FlakePainter();
        painter.setRule(FlakePainter.PLAIN);
        return painter;
    }

    // ---- promise 20: squareError

    private static void p20SquareTooSmall() {
        for (int square : Values.below(0)) {
            Refused.outOfBounds("squareError(" + square + ")", painter -> painter.squareError(square));
        }
    }

    private static void p20SquareTooLarge() {
        for (int square : Values.above(15)) {
            Refused.outOfBounds("squareError(" + square + ")", painter -> painter.squareError(square));
        }
    }

    /** The squares of a picture in which one cell alone is grey. */
    private static void squaresAre(int cell, int square) {
        FlakePainter painter = plain();
        painter.setGrey(cell, 100);
        for (int other = 0; other < 16; other++) {
            Check.due("cell " + cell + " square " + other, painter.squareError(other), other == square ? 100 : 0);
        }
    }

    private static void p20CornersOfTheFirstSquare() {
        squaresAre(0, 0);
        squaresAre(1, 0);
        squaresAre(8, 0);
        squaresAre(9, 0);
    }

    private static void p20CornersOfTheLastSquare() {
        squaresAre(54, 15);
        squaresAre(55, 15);
        squaresAre(62, 15);
        squaresAre(63, 15);
    }

    private static void p20LastSquareOfARowAndTheNextOne() {
        squaresAre(6, 3);
        squaresAre(15, 3);
        squaresAre(16, 4);
        squaresAre(25, 4);
        squaresAre(48, 12);
    }

    private static void p20GreyerThanItsFlakes() {
        FlakePainter painter = plain();
        painter.setGrey(63, 127);
        Check.due("squareError(15)", painter.squareError(15), 127);
    }

    private static void p20LessGreyThanItsFlakes() {
        FlakePainter painter = plain();
        painter.setGrey(63, 128);
        Check.due("squareError(15)", painter.squareError(15), 127);
    }

    private static void p20NoDifference() {
        FlakePainter painter = plain();
        Check.due("nothing", painter.squareError(5), 0);
        painter.fill(18, 2, 2, 255);
        Check.due("four flakes", painter.squareError(5), 0);
    }

    // ---- promise 21: roughness

    private static void p21Nothing() {
        Check.due("roughness", new FlakePainter().roughness(), 0);
    }

    private static void p21AllFlakes() {
        FlakePainter painter = new FlakePainter();
        painter.invert();
        Check.due("roughness", painter.roughness(), 0);
    }

    private static void p21EachSquareCounts() {
        for (int cell = 0; cell < 64; cell++) {
            FlakePainter painter = plain();
            painter.setGrey(cell, 100);
            Check.due("cell " + cell, painter.roughness(), 100);
        }
    }

    /** The first square has 55 too little grey, the second one 55 too much. */
    private static void p21DifferencesDoNotMakeUpForOneAnother() {
        FlakePainter painter = plain();
        painter.setGrey(0, 200);
        painter.setGrey(2, 55);
        Check.due("squareError(0)", painter.squareError(0), 55);
        Check.due("squareError(1)", painter.squareError(1), 55);
        Check.due("roughness", painter.roughness(), 110);
    }

    /** Within a square they do: 200 less than 255, and 55. */
    private static void p21DifferencesOfASquareDo() {
        FlakePainter painter = plain();
        painter.setGrey(0, 200);
        painter.setGrey(1, 55);
        Check.due("roughness", painter.roughness(), 0);
    }

    // ---- promise 22: smoothestRule

    private static void p22AllAreEven() {
        Check.due("nothing", new FlakePainter().smoothestRule(), FlakePainter.PLAIN);
        FlakePainter painter = new FlakePainter();
        painter.invert();
        painter.setRule(FlakePainter.WIDE);
        Check.due("all flakes", painter.smoothestRule(), FlakePainter.PLAIN);
    }

    /** The differences with the four rules are told, and the answer. */
    private static void smoothestIs(int rule, int cell, int height, int width, int grey, int... differences) {
        FlakePainter painter = new FlakePainter();
        painter.fill(cell, height, width, grey);
        for (int other = 0; other < 4; other++) {
            painter.setRule(other);
            Check.due("roughness with rule " + other, painter.roughness(), differences[other]);
            Check.due("smoothestRule while it is " + other, painter.smoothestRule(), rule);
        }
    }

    private static void p22PlainOfSeveral() {
        smoothestIs(FlakePainter.PLAIN, 9, 1, 6, 106, 298, 341, 341, 298);
        smoothestIs(FlakePainter.PLAIN, 9, 1, 3, 77, 178, 178, 231, 178);
    }

    private static void p22CrossOfSeveral() {
        smoothestIs(FlakePainter.CROSS, 0, 1, 6, 106, 298, 129, 129, 298);
        smoothestIs(FlakePainter.CROSS, 9, 1, 2, 64, 255, 128, 128, 128);
        smoothestIs(FlakePainter.CROSS, 9, 1, 6, 68, 510, 391, 408, 391);
    }

    private static void p22FullOfSeveral() {
        smoothestIs(FlakePainter.FULL, 9, 1, 2, 85, 255, 255, 170, 170);
    }

    private static void p22TheLastOneAlone() {
        smoothestIs(FlakePainter.WIDE, 9, 1, 2, 88, 255, 255, 255, 176);
    }

    private static void p22NothingIsAltered() {
        FlakePainter painter = new FlakePainter();
        Refused.FULL.make(painter);
        FlakePainter twin = new FlakePainter();
        Refused.FULL.make(twin);
        painter.smoothestRule();
        Check.due("flakes", painter.flakes(), twin.flakes());
        Check.due("undoCount", painter.undoCount(), 6);
        Check.due("setRule", painter.setRule(FlakePainter.PLAIN), FlakePainter.WIDE);
    }

    // ---- promise 23: thresholdFor

    private static void p23FlakesTooSmall() {
        for (int flakes : Values.below(0)) {
            Refused.badArgument("thresholdFor(" + flakes + ")", painter -> painter.thresholdFor(flakes));
        }
    }

    private static void p23FlakesTooLarge() {
        for (int flakes : Values.above(64)) {
            Refused.badArgument("thresholdFor(" + flakes + ")", painter -> painter.thresholdFor(flakes));
        }
    }

    private static void p23LeastThreshold() {
        Check.due("no flake", new FlakePainter().thresholdFor(0), 1);
        FlakePainter painter = new FlakePainter();
        painter.invert();
        Check.due("all flakes", painter.thresholdFor(64), 1);
    }

    private static void p23GreatestThreshold() {
        FlakePainter painter = plain();
        painter.setGrey(63, 254);
        Check.due("254", painter.thresholdFor(0), 255);
    }

    private static void p23NoThreshold() {
        FlakePainter painter = plain();
        painter.setGrey(63, 255);
        Check.due("one flake", painter.thresholdFor(0), FlakePainter.NONE);
        painter.invert();
        Check.due("63 flakes less than", painter.thresholdFor(62), FlakePainter.NONE);
        painter.fill(0, 8, 8, 255);
        Check.due("64 flakes", painter.thresholdFor(63), FlakePainter.NONE);
    }

    private static void p23JustSoMany() {
        FlakePainter painter = plain();
        painter.setGrey(7, 50);
        painter.setGrey(15, 60);
        painter.setGrey(63, 70);
        Check.due("3", painter.thresholdFor(3), 1);
        Check.due("2", painter.thresholdFor(2), 51);
        Check.due("1", painter.thresholdFor(1), 61);
        Check.due("0", painter.thresholdFor(0), 71);
    }

    /**
     * With 3 to 127 the first cell alone gets a flake, and hands on -64 twice;
     * with 128 it gets none, hands on 63 and 64, and so makes two.
     */
    private static void p23AGreaterThresholdWithMoreFlakes() {
        FlakePainter painter = new FlakePainter();
        painter.setRule(FlakePainter.CROSS);
        painter.setGrey(0, 127);
        painter.setGrey(1, 66);
        painter.setGrey(8, 66);
        int[][] counts = {{2, 3}, {3, 1}, {127, 1}, {128, 2}, {129, 2}, {131, 0}, {255, 0}};
        for (int[] count : counts) {
            painter.setThreshold(count[0]);
            Check.due("flakeCount with " + count[0], painter.flakeCount(), count[1]);
        }
        Check.due("thresholdFor(1)", painter.thresholdFor(1), 3);
        Check.due("thresholdFor(2)", painter.thresholdFor(2), 3);
        Check.due("thresholdFor(3)", painter.thresholdFor(3), 1);
    }

    private static void p23NothingIsAltered() {
        FlakePainter painter = new FlakePainter();
        Refused.FULL.make(painter);
        FlakePainter twin = new FlakePainter();
        Refused.FULL.make(twin);
        painter.thresholdFor(3);
        Check.due("flakes", painter.flakes(), twin.flakes());
        Check.due("undoCount", painter.undoCount(), 6);
        Check.due("setThreshold", painter.setThreshold(1), 77);
    }

    // ---- promise 24: excess

    private static void p24NothingInNothing() {
        Check.dueDouble("excess", new FlakePainter().excess(), 0.0);
    }

    private static void p24AllInAll() {
        FlakePainter painter = new FlakePainter();
        painter.invert();
        Check.dueDouble("excess", painter.excess(), 0.0);
    }

    private static void p24LessThan0() {
        FlakePainter painter = plain();
        painter.setGrey(63, 127);
        Check.dueDouble("excess", painter.excess(), 0.0 - 127.0 / 16320.0);
    }

    private static void p24GreaterThan0() {
        FlakePainter painter = plain();
        painter.setGrey(63, 128);
        Check.dueDouble("excess", painter.excess(), 1.0 / 64.0 - 128.0 / 16320.0);
    }

    /** With the least threshold the first cell of each row gets a flake, and the others' values are below 0. */
    private static void p24NotCutOff() {
        FlakePainter painter = plain();
        painter.setThreshold(1);
        painter.setGrey(63, 1);
        Check.dueDouble("excess", painter.excess(), 1.0 / 64.0 - 1.0 / 16320.0);
        painter.fill(0, 8, 8, 1);
        Check.dueDouble("excess of one flake in each row", painter.excess(), 8.0 / 64.0 - 64.0 / 16320.0);
    }
}
