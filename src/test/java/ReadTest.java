/** Promise 3. */
public final class ReadTest {
    public static void main(String[] args) {
        numbers();
        latestCounts();
        doubt();
        doubtOverDays();
        ofTheLargest();
        noHouses();
        refusedChangesNothing();
        fourHundred();
        Check.end("ReadTest");
    }

    private static void numbers() {
        SunVillage village = Check.village(1, 1);
        int[][] wrong = {{-1, 0, 0, 0}, {2, 0, 0, 0}, {0, -1, 0, 0}, {0, 240, 0, 0}, {0, 0, -1, 0},
            {0, 0, 5001, 0}, {0, 0, 0, -1}, {0, 0, 0, 5001}, {Integer.MIN_VALUE, 0, 0, 0},
            {Integer.MAX_VALUE, 0, 0, 0}, {0, Integer.MIN_VALUE, 0, 0}, {0, Integer.MAX_VALUE, 0, 0},
            {0, 0, Integer.MIN_VALUE, 0}, {0, 0, Integer.MAX_VALUE, 0}, {0, 0, 0, Integer.MIN_VALUE},
            {0, 0, 0, Integer.MAX_VALUE}};
        for (int[] w : wrong) {
            Check.due("read(" + w[0] + ", " + w[1] + ", " + w[2] + ", " + w[3] + ")",
                    village.read(w[0], w[1], w[2], w[3]), false);
        }
        Check.due("count(1)", village.count(1), 0);
        Check.due("read(1, 239, 5000, 5000)", village.read(1, 239, 5000, 5000), true);
        Check.due("read(0, 0, 0, 0)", village.read(0, 0, 0, 0), true);
        Check.due("count(1)", village.count(1), 2);
    }

    private static void latestCounts() {
        SunVillage village = Check.village(1);
        village.read(0, 5, 10, 20);
        village.read(0, 5, 30, 5);
        Check.due("WANTS", village.had(0, 5, 0), 30);
        Check.due("GIVES", village.had(0, 5, 1), 5);
        village.days(7);
        village.read(0, 5, 1, 2);
        Check.due("WANTS later", village.had(0, 5, 0), 1);
        Check.due("GIVES later", village.had(0, 5, 1), 2);
    }

    private static void doubt() {
        SunVillage village = Check.village(1, 1);
        village.read(0, 5, 10, 20);
        village.read(0, 9, 0, 0);
        int[][] due = {{0, 0, 0, 1}, {4, 0, 0, 1}, {5, 10, 20, 0}, {6, 10, 20, 1}, {8, 10, 20, 1},
            {9, 0, 0, 0}, {10, 0, 0, 1}, {239, 0, 0, 1}};
        for (int[] d : due) {
            Check.due("WANTS in quarter " + d[0], village.had(0, d[0], 0), d[1]);
            Check.due("GIVES in quarter " + d[0], village.had(0, d[0], 1), d[2]);
            Check.due("DOUBT in quarter " + d[0], village.had(0, d[0], 7), d[3]);
            Check.due("DOUBT of the other house", village.had(1, d[0], 7), 1);
        }
        // One ahead of those that were looked at already.
        village.read(0, 2, 7, 8);
        Check.due("WANTS in quarter 1", village.had(0, 1, 0), 0);
        Check.due("WANTS in quarter 4", village.had(0, 4, 0), 7);
        Check.due("WANTS in quarter 6", village.had(0, 6, 0), 10);
    }

    /** "its latest quarter ahead that has one": however many days lie between, and never one behind. */
    private static void doubtOverDays() {
        SunVillage village = Check.village(1, 1);
        village.read(0, 23, 11, 0);
        village.read(0, 0, 22, 0);
        village.read(1, 239, 33, 0);
        int[][] due = {{0, 22, 0}, {1, 22, 1}, {22, 22, 1}, {23, 11, 0}, {24, 11, 1}, {48, 11, 1}, {239, 11, 1}};
        for (int[] d : due) {
            Check.due("WANTS in quarter " + d[0], village.had(0, d[0], 0), d[1]);
            Check.due("DOUBT in quarter " + d[0], village.had(0, d[0], 7), d[2]);
        }
        Check.due("WANTS ahead of the only one", village.had(1, 238, 0), 0);
        Check.due("DOUBT ahead of the only one", village.had(1, 238, 7), 1);
        Check.due("WANTS in the last quarter", village.had(1, 239, 0), 33);
        Check.due("DOUBT in the last quarter", village.had(1, 239, 7), 0);
    }

    /** "(0 .. 5000 each)": both may be at either end. */
    private static void ofTheLargest() {
        int[][] ends = {{0, 0}, {0, 5000}, {5000, 0}, {5000, 5000}};
        for (int[] e : ends) {
            SunVillage village = Check.village(1);
            Check.due("read(0, 0, " + e[0] + ", " + e[1] + ")", village.read(0, 0, e[0], e[1]), true);
            Check.due("WANTS", village.had(0, 0, 0), e[0]);
            Check.due("GIVES", village.had(0, 0, 1), e[1]);
            Check.due("OWN", village.had(0, 0, 2), Math.min(e[0], e[1]));
            Check.due("POOL", village.quarter(0, 0), Math.max(0, e[1] - e[0]));
            Check.due("bought", village.had(0, 0, 5), Math.max(0, e[0] - e[1]));
        }
    }

    private static void noHouses() {
        SunVillage village = new SunVillage(0, 0);
        Check.due("read(0, 0, 0, 0) of nobody", village.read(0, 0, 0, 0), false);
        Check.due("count(1)", village.count(1), 0);
    }

    private static void refusedChangesNothing() {
        SunVillage village = Check.village(1);
        village.read(0, 1, 10, 20);
        int[][] wrong = {{0, 1, 30, 5001}, {0, 1, 5001, 40}, {0, 1, -1, 40}, {1, 1, 30, 40}, {0, 241, 30, 40}};
        for (int[] w : wrong) {
            Check.due("refused", village.read(w[0], w[1], w[2], w[3]), false);
        }
        Check.due("WANTS", village.had(0, 1, 0), 10);
        Check.due("GIVES", village.had(0, 1, 1), 20);
        Check.due("count(1)", village.count(1), 1);
    }

    private static void fourHundred() {
        SunVillage village = Check.village(1);
        for (int i = 0; i < 400; i++) {
            Check.due("reading " + i, village.read(0, i % 240, i, 0), true);
        }
        Check.due("a 401st reading", village.read(0, 0, 0, 0), false);
        village.days(1);
        Check.due("nor on the next day", village.read(0, 200, 0, 0), false);
        Check.due("count(1)", village.count(1), 400);
        Check.due("WANTS in quarter 0", village.had(0, 0, 0), 240);
        Check.due("WANTS in quarter 239", village.had(0, 239, 0), 239);
    }
}
