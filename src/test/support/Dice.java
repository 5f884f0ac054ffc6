/** Numbers that look thrown and are the same in every run. */
final class Dice {
    private long now;

    Dice(long seed) {
        now = seed * 2862933555777941757L + 3037000493L;
    }

    int below(int n) {
        now = now * 6364136223846793005L + 1442695040888963407L;
        return (int) ((now >>> 33) % n);
    }

    int between(int low, int high) {
        return low + below(high - low + 1);
    }
}
