/** Promise 12. */
public final class WouldTest {
    private static final int NONE = SunVillage.NONE;

    public static void main(String[] args) {
        SunVillage village = Check.village(1, 1, 1);
        Check.due("no OTHER text", village.would(0, 0), NONE);
        village.read(0, 0, 0, 100);
        village.read(1, 0, 30, 0);
        village.read(2, 0, 40, 0);
        Check.due("no OTHER text", village.would(0, 0), NONE);
        Check.text(village, 0, "give all from pool to house 1 by heads; fill all; rest first;");
        Check.other(village, "when hour = 0 fill 60; give 5 from store to house 2 by heads;"
                + "give 15 from pool to all by heads; rest most;");
        Check.due("would(0, 0)", village.would(0, 0), 0);
        Check.due("would(1, 0)", village.would(1, 0), 7);
        // The POOL's odd one is for house 2, that still wants most.
        Check.due("would(2, 0)", village.would(2, 0), 5 + 8);
        Check.due("its STORE empties by fives", village.would(2, 11), 5 + 8);
        Check.due("its STORE is empty", village.would(2, 12), 8);
        Check.due("a day later", village.would(2, 24), 5 + 8);
        Check.due("what is in force stands", village.had(1, 0, 3), 30);
        Check.due("what is in force stands", village.quarter(0, 2), 70);

        village.read(0, 1, 0, 9);
        Check.due("a reading that comes later", village.would(1, 1), 4);
        Check.due("and behind it", village.would(2, 30), 5);
        Check.due("its STORE has nine on the next day", village.would(2, 25), 4 + 5);
        Check.due("and ahead of it", village.would(1, 0), 7);

        int[][] wrong = {{-1, 0}, {3, 0}, {0, -1}, {0, 240}, {Integer.MIN_VALUE, 0}, {Integer.MAX_VALUE, 0},
            {0, Integer.MIN_VALUE}, {0, Integer.MAX_VALUE}};
        for (int[] w : wrong) {
            Check.due("would(" + w[0] + ", " + w[1] + ")", village.would(w[0], w[1]), NONE);
        }
        Check.end("WouldTest");
    }
}
