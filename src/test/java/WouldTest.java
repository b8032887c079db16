/** Promise 12. */
public final class WouldTest {
    private static final int NONE = SunVillage.NONE;

    public static void main(String[] args) {
        SunVillage village = Check.village(1, 1, 1);
        Check.due("no OTHER text", village.would(0, 0), NONE);
        village.read(0, 0, 0, 100);
        village.read(1, 0, 30, 0);
        village.read(2, 0, 40, 0);
        Check.due("no OTHER text", village.would(0, 0), NONE);
        Check.text(village, 0, "give all from pool to house 1 by heads; fill all; rest first;");
        Check.other(village, "when hour = 0 fill 60; give 5 from store to house 2 by heads;"
                + "give 15 from pool to all by heads; rest most;");
        Check.due("would(0, 0)", village.would(0, 0), 0);
        Check.due("would(1, 0)", village.would(1, 0), 7);
        // The POOL's odd one is for house 2, that still wants most.
        Check.due("would(2, 0)", village.would(2, 0), 5 + 8);
        Check.due("its STORE empties by fives", village.would(2, 11), 5 + 8);
        Check.due("its STORE is empty", village.would(2, 12), 8);
        Check.due("a day later", village.would(2, 24), 5 + 8);
        Check.due("what is in force stands", village.had(1, 0, 3), 30);
        Check.due("what is in force stands", village.quarter(0, 2), 70);

        village.read(0, 1, 0, 9);
        Check.due("a reading that comes later", village.would(1, 1), 4);
        Check.due("and behind it", village.would(2, 30), 5);
        Check.due("its STORE has nine on the next day", village.would(2, 25), 4 + 5);
        Check.due("and ahead of it", village.would(1, 0), 7);

        int[][] wrong = {{-1, 0}, {3, 0}, {0, -1}, {0, 240}, {Integer.MIN_VALUE, 0}, {Integer.MAX_VALUE, 0},
            {0, Integer.MIN_VALUE}, {0, Integer.MAX_VALUE}};
        for (int[] w : wrong) {
            Check.due("would(" + w[0] + ", " + w[1] + ")", village.would(w[0], w[1]), NONE);
        }
        alone();
        nobody();
        Check.end("WouldTest");
    }

    /** "in force from quarter 0 on, alone": with a STORE of its own, that has the same CAP and LOSS. */
    private static void alone() {
        SunVillage village = new SunVillage(50, 100);
        village.house(1, 5000);
        village.house(1, 5000);
        village.read(0, 0, 0, 70);
        village.read(1, 1, 100, 0);
        Check.text(village, 0, "fill 7; rest first;");
        Check.text(village, 1, "give all from store to all by heads; rest first;");
        Check.due("had from the STORE", village.had(1, 1, 4), 7);
        Check.other(village, "when hour = 0 fill all; when hour = 1 give all from store to all by heads;"
                + "when day = 9 give hour from pool to all by heads; rest first;");
        Check.due("its STORE held 50 and lost 5", village.would(1, 1), 45);
        Check.due("in quarter 0", village.would(1, 0), 0);
        Check.due("in the last quarter", village.would(1, 239), 23);
        Check.due("had as before", village.had(1, 1, 4), 7);
        Check.due("a text that comes later", Check.text(village, 2, "give 9 from pool to all by heads; rest first;"), 0);
        Check.due("is nothing to it", village.would(1, 2), 0);
        Check.due("but is in force", village.had(1, 2, 3), 9);
    }

    private static void nobody() {
        SunVillage village = new SunVillage(50, 100);
        Check.other(village, "fill all; rest first;");
        Check.due("would(0, 0) of nobody", village.would(0, 0), NONE);
        Check.due("would(-1, 0) of nobody", village.would(-1, 0), NONE);
    }
}
