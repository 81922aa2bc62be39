/** Numbers just outside of a range and far from it; in a sum or a product some of these would wrap around to within it. */
final class Values {
    private Values() {
    }

    static int[] below(int least) {
        return new int[] {least - 1, least - 2, least - 8, least - 64, least - 256, -(1 << 29) + least,
            Integer.MIN_VALUE + least, Integer.MIN_VALUE + 63 + least};
    }

    static int[] above(int greatest) {
        return new int[] {greatest + 1, greatest + 2, greatest + 8, greatest + 64, greatest + 256, 1 << 29,
            (1 << 30) + greatest, Integer.MAX_VALUE};
    }
}
