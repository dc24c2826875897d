/** A long row of numbers, the same each time that the tests are run. */
final class Draws {
    private long seed = 1;

    /** From 0 on, below a bound. */
    int next(int bound) {
        seed = seed * 6364136223846793005L + 1442695040888963407L;
        return (int) ((seed >>> 33) % bound);
    }

    int from(int... numbers) {
        return numbers[next(numbers.length)];
    }
}
