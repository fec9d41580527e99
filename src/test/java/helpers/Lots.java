/** LOT 100 once more, by numbers that do not wrap, the rest by 2 to the 32nd being taken. */
public final class Lots {
    private static final long INTS = 1L << 32;

    private Lots() { }

    public static int lot(int seed, int which) {
        long h = seed;
        long[] its = {143, which};
        for (long it : its) {
            h = ((h ^ it) * 1103515245L + 12345L) % INTS;
            h = h ^ h / 32768;
        }
        return (int) (h / 2 % 100);
    }
}
