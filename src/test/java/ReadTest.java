/** Promise 3. */
public final class ReadTest {
    public static void main(String[] args) {
        numbers();
        latestCounts();
        doubt();
        fourHundred();
        Check.end("ReadTest");
    }

    private static void numbers() {
        SunVillage village = Check.village(1, 1);
        int[][] wrong = {{-1, 0, 0, 0}, {2, 0, 0, 0}, {0, -1, 0, 0}, {0, 240, 0, 0}, {0, 0, -1, 0},
            {0, 0, 5001, 0}, {0, 0, 0, -1}, {0, 0, 0, 5001}, {Integer.MIN_VALUE, 0, 0, 0},
            {Integer.MAX_VALUE, 0, 0, 0}, {0, Integer.MIN_VALUE, 0, 0}, {0, Integer.MAX_VALUE, 0, 0}};
        for (int[] w : wrong) {
            Check.due("read of house " + w[0] + " quarter " + w[1], village.read(w[0], w[1], w[2], w[3]), false);
        }
        Check.due("count(1)", village.count(1), 0);
        Check.due("read(1, 239, 5000, 5000)", village.read(1, 239, 5000, 5000), true);
        Check.due("read(0, 0, 0, 0)", village.read(0, 0, 0, 0), true);
        Check.due("count(1)", village.count(1), 2);
    }

    private static void latestCounts() {
        SunVillage village = Check.village(1);
        village.read(0, 5, 10, 20);
        village.read(0, 5, 30, 5);
        Check.due("WANTS", village.had(0, 5, 0), 30);
        Check.due("GIVES", village.had(0, 5, 1), 5);
        village.days(7);
        village.read(0, 5, 1, 2);
        Check.due("WANTS later", village.had(0, 5, 0), 1);
        Check.due("GIVES later", village.had(0, 5, 1), 2);
    }

    private static void doubt() {
        SunVillage village = Check.village(1, 1);
        village.read(0, 5, 10, 20);
        village.read(0, 9, 0, 0);
        int[][] due = {{0, 0, 0, 1}, {4, 0, 0, 1}, {5, 10, 20, 0}, {6, 10, 20, 1}, {8, 10, 20, 1},
            {9, 0, 0, 0}, {10, 0, 0, 1}, {239, 0, 0, 1}};
        for (int[] d : due) {
            Check.due("WANTS in quarter " + d[0], village.had(0, d[0], 0), d[1]);
            Check.due("GIVES in quarter " + d[0], village.had(0, d[0], 1), d[2]);
            Check.due("DOUBT in quarter " + d[0], village.had(0, d[0], 7), d[3]);
            Check.due("DOUBT of the other house", village.had(1, d[0], 7), 1);
        }
        // One ahead of those that were looked at already.
        village.read(0, 2, 7, 8);
        Check.due("WANTS in quarter 1", village.had(0, 1, 0), 0);
        Check.due("WANTS in quarter 4", village.had(0, 4, 0), 7);
        Check.due("WANTS in quarter 6", village.had(0, 6, 0), 10);
    }

    private static void fourHundred() {
        SunVillage village = Check.village(1);
        for (int i = 0; i < 400; i++) {
            Check.due("reading " + i, village.read(0, i % 240, i, 0), true);
        }
        Check.due("a 401st reading", village.read(0, 0, 0, 0), false);
        Check.due("count(1)", village.count(1), 400);
        Check.due("WANTS in quarter 0", village.had(0, 0, 0), 240);
        Check.due("WANTS in quarter 239", village.had(0, 239, 0), 239);
    }
}
