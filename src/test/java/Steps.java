/** Numbers that look mixed, but are the same in each run. */
final class Steps {
    private long state;

    Steps(long start) {
        state = start;
    }

    int below(int bound) {
        state = state * 6364136223846793005L + 1442695040888963407L;
        return (int) ((state >>> 33) % bound);
    }
}
