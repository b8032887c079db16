/** Promise 9. */
public final class HadTest {
    public static void main(String[] args) {
        all();
        wrongNumbers();
        ownIsNotBorne();
        lineOfNothing();
        lineThatJustBears();
        roofThatJustServes();
        Check.end("HadTest");
    }

    private static void row(SunVillage village, int house, int quarter, int... want) {
        for (int what = 0; what < want.length; what++) {
            Check.due("had(" + house + ", " + quarter + ", " + what + ")", village.had(house, quarter, what), want[what]);
        }
    }

    private static void all() {
        SunVillage village = new SunVillage(100, 0);
        village.house(1, 5000);
        village.house(1, 30);
        village.house(1, 5000);
        Check.text(village, 0, "price pool 2; price store 3; price buy 5; price sell 1;"
                + "give 20 from pool to house 1 by heads; fill 40;"
                + "when hour = 1 give 14 from store to all by heads; rest first;");
        village.read(0, 0, 10, 90);
        village.read(1, 0, 70, 25);
        village.read(2, 1, 6, 0);
        row(village, 0, 0, 10, 90, 10, 0, 0, 0, 0, 0, -160);
        row(village, 1, 0, 70, 25, 25, 20, 0, 10, 15, 0, 40 + 50);
        row(village, 2, 0, 0, 0, 0, 0, 0, 0, 0, 1, 0);
        // In quarter 1 the STORE gives 7 to houses 1 and 2; 2 wants 6 alone, so that the one left is for 1.
        row(village, 1, 1, 70, 25, 25, 20, 8, 2, 15, 1, 40 + 24 + 10);
        row(village, 2, 1, 6, 0, 0, 0, 6, 0, 0, 0, 18);
    }

    private static void wrongNumbers() {
        SunVillage village = Check.village(1, 1);
        int[][] wrong = {{-1, 0, 0}, {2, 0, 0}, {0, -1, 0}, {0, 240, 0}, {0, 0, -1}, {0, 0, 9},
            {Integer.MIN_VALUE, 0, 0}, {0, Integer.MIN_VALUE, 0}, {0, 0, Integer.MIN_VALUE},
            {Integer.MAX_VALUE, 0, 0}, {0, Integer.MAX_VALUE, 0}, {0, 0, Integer.MAX_VALUE}};
        for (int[] w : wrong) {
            Check.noSuch("had(" + w[0] + ", " + w[1] + ", " + w[2] + ")", () -> village.had(w[0], w[1], w[2]));
        }
        row(village, 1, 239, 0, 0, 0, 0, 0, 0, 0, 1, 0);
    }

    private static void ownIsNotBorne() {
        SunVillage village = new SunVillage(0, 0);
        village.house(1, 10);
        village.read(0, 0, 100, 80);
        row(village, 0, 0, 100, 80, 80, 0, 0, 10, 10, 0, 0);
    }

    /** "buys from the town what its line still bears; the rest is DARK": one less, as much, one more. */
    private static void lineThatJustBears() {
        int[][] due = {{9, 9, 1}, {10, 10, 0}, {11, 10, 0}};
        for (int[] d : due) {
            SunVillage village = new SunVillage(0, 0);
            village.house(1, d[0]);
            village.read(0, 0, 10, 0);
            row(village, 0, 0, 10, 0, 0, 0, 0, d[1], d[2], 0, 0);
        }
        // What it had by rules is borne by the same line, from POOL and STORE alike.
        SunVillage village = new SunVillage(100, 0);
        village.house(1, 10);
        village.house(1, 0);
        Check.text(village, 0, "fill 5;give 5 from store to all by heads;give hour + 4 from pool to all by heads;rest first;");
        village.read(0, 0, 20, 0);
        village.read(1, 0, 0, 50);
        row(village, 0, 0, 20, 0, 0, 4, 5, 1, 10, 0, 0);
        row(village, 0, 1, 20, 0, 0, 5, 5, 0, 10, 1, 0);
        row(village, 0, 2, 20, 0, 0, 5, 5, 0, 10, 1, 0);
    }

    /** "the lesser of WANTS, GIVES is its OWN; what is left of it is its want, its gift". */
    private static void roofThatJustServes() {
        int[][] due = {{10, 9, 9, 1, 0}, {10, 10, 10, 0, 0}, {10, 11, 10, 0, 1}, {0, 0, 0, 0, 0}, {5000, 5000, 5000, 0, 0}};
        for (int[] d : due) {
            SunVillage village = Check.village(1);
            village.read(0, 0, d[0], d[1]);
            row(village, 0, 0, d[0], d[1], d[2], 0, 0, d[3], 0, 0, 0);
            Check.due("POOL of " + d[0] + ", " + d[1], village.quarter(0, 0), d[4]);
        }
    }

    private static void lineOfNothing() {
        SunVillage village = new SunVillage(0, 0);
        village.house(1, 0);
        village.house(1, 5000);
        Check.text(village, 0, "price buy 9;give all from pool to all by heads;rest first;");
        village.read(0, 0, 100, 30);
        village.read(1, 0, 0, 50);
        row(village, 0, 0, 100, 30, 30, 0, 0, 0, 70, 0, 0);
        Check.due("the town bought", village.quarter(0, 3), 50);
    }
}
