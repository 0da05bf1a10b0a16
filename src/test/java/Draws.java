/** What a car draws in each step that it is ON, by its z told in long arithmetic. */
final class Draws {
    private long z;

    Draws(int car) {
        z = 12345 + car;
    }

    /** 0 .. 9; below its DAWDLE a car dawdles. */
    int next() {
        z = z * 1103515245L + 12345L & 0xffffffffL;
        return (int) ((z >> 16) % 10);
    }

    /** Whether z, as an int, is below 0 now. */
    boolean isNegative() {
        return z > 0x7fffffffL;
    }
}
