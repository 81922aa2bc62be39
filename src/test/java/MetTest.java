/** Promises 20 to 24: how well greys are met. */
public final class MetTest {
    public static void main(String[] args) {
        squareErrorOfEachCell();
        squareErrorOfFlakes();
        roughness();
        smoothestRule();
        thresholdFor();
        excess();
        Check.end();
    }

    private static void squareErrorOfEachCell() {
        for (int cell = 0; cell < 64; cell++) {
            FlakePainter painter = new FlakePainter();
            painter.setGrey(cell, 100);
            int due = cell / 16 * 4 + cell % 8 / 2;
            for (int square = 0; square < 16; square++) {
                Check.due("P20 cell " + cell + " square " + square, painter.squareError(square), square == due ? 100 : 0);
            }
        }
    }

    private static void squareErrorOfFlakes() {
        FlakePainter painter = new FlakePainter();
        painter.setRule(FlakePainter.PLAIN);
        painter.setGrey(0, 200);
        Check.due("P20 one flake", painter.squareError(0), 55);
        painter.fill(0, 2, 2, 200);
        // 200, then 145: two flakes in each of the two rows.
        Check.due("P20 four flakes", painter.squareError(0), 220);
        painter.setThreshold(255);
        // 200, then 400: one flake in each row; the next square gets 145 and no flake.
        Check.due("P20 two flakes", painter.squareError(0), 290);
        Check.due("P20 next square", painter.squareError(1), 0);
        Check.due("P20 is no change", painter.undoCount(), 4);
    }

    private static FlakePainter sample() {
        FlakePainter painter = new FlakePainter();
        painter.shadeRow(1, 30, 230);
        painter.shadeRow(4, 255, 0);
        painter.fill(18, 4, 5, 170);
        return painter;
    }

    private static void roughness() {
        FlakePainter painter = new FlakePainter();
        Check.due("P21 roughness of nothing", painter.roughness(), 0);
        painter.setGrey(0, 200);
        painter.setGrey(63, 100);
        painter.setRule(FlakePainter.PLAIN);
        Check.due("P21 roughness of two squares", painter.roughness(), 155);
        FlakePainter other = sample();
        int sum = 0;
        for (int square = 0; square < 16; square++) {
            sum += other.squareError(square);
        }
        Check.due("P21 roughness is the sum", other.roughness(), sum);
        Check.due("P21 is no change", other.undoCount(), 3);
    }

    private static void smoothestRule() {
        FlakePainter even = new FlakePainter();
        Check.due("P22 the lowest of all", even.smoothestRule(), FlakePainter.PLAIN);
        boolean[] found = new boolean[4];
        for (int grey = 1; grey < 255; grey++) {
            FlakePainter painter = new FlakePainter();
            painter.fill(0, 8, 8, grey);
            if (grey % 2 == 0) {
                painter.turnWinding();
            }
            if (grey % 3 == 0) {
                painter.setThreshold(60 + grey / 2);
            }
            int rule = leastRough(painter);
            String before = Check.stateOf(painter);
            Check.due("P22 smoothestRule of " + grey, painter.smoothestRule(), rule);
            Check.sameState("P22 smoothestRule of " + grey, painter, before);
            found[rule] = true;
        }
        for (int rule = 0; rule < 4; rule++) {
            Check.due("P22 tried with the answer " + rule, found[rule], true);
        }
    }

    private static int leastRough(FlakePainter painter) {
        int best = 0;
        int least = Integer.MAX_VALUE;
        for (int rule = 3; rule >= 0; rule--) {
            painter.setRule(rule);
            int roughness = painter.roughness();
            painter.undo();
            if (roughness <= least) {
                least = roughness;
                best = rule;
            }
        }
        return best;
    }

    private static void thresholdFor() {
        FlakePainter painter = sample();
        String before = Check.stateOf(painter);
        int[] counts = new int[256];
        for (int threshold = 1; threshold <= 255; threshold++) {
            FlakePainter other = sample();
            other.setThreshold(threshold);
            counts[threshold] = other.flakeCount();
        }
        for (int flakes = 0; flakes <= 64; flakes++) {
            Check.due("P23 thresholdFor " + flakes, painter.thresholdFor(flakes), leastFor(counts, flakes));
        }
        Check.sameState("P23 thresholdFor", painter, before);
    }

    private static int leastFor(int[] counts, int flakes) {
        for (int threshold = 1; threshold <= 255; threshold++) {
            if (counts[threshold] <= flakes) {
                return threshold;
            }
        }
        return FlakePainter.NONE;
    }

    private static void excess() {
        FlakePainter painter = new FlakePainter();
        Check.dueDouble("P24 excess of nothing", painter.excess(), 0.0);
        painter.setGrey(63, 100);
        Check.dueDouble("P24 excess without flakes", painter.excess(), 0.0 - 100.0 / 16320.0);
        painter.setGrey(63, 200);
        Check.dueDouble("P24 excess with a flake", painter.excess(), 1.0 / 64.0 - 200.0 / 16320.0);
        painter.fill(0, 8, 8, 100);
        Check.dueDouble("P24 excess of 100", painter.excess(), -0.017156862745098034);
        Check.due("P24 is no change", painter.undoCount(), 3);
        painter.fill(0, 8, 8, 255);
        Check.dueDouble("P24 excess of all", painter.excess(), 0.0);
    }
}
