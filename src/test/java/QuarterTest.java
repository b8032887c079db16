/** Promise 10. */
public final class QuarterTest {
    public static void main(String[] args) {
        all();
        prices();
        pricesAreThoseBehindTheRules();
        sumsOfAllHouses();
        storeIsFull();
        fillIsTheLeastOfThree();
        storeOfNothing();
        loss();
        largestLoss();
        wrongNumbers();
        Check.end("QuarterTest");
    }

    private static void row(SunVillage village, int quarter, int... want) {
        for (int what = 0; what < want.length; what++) {
            Check.due("quarter(" + quarter + ", " + what + ")", village.quarter(quarter, what), want[what]);
        }
    }

    private static void all() {
        SunVillage village = new SunVillage(100, 250);
        village.house(1, 5000);
        village.house(1, 30);
        Check.text(village, 1, "price pool 2; price store 3; price buy 5; price sell 1;"
                + "give 20 from pool to all by heads; fill 37;"
                + "when hour = 2 give 10 from store to all by heads; rest first;");
        village.read(0, 0, 10, 90);
        village.read(1, 0, 70, 25);
        // Nothing is given or filled ahead of the first text, but the town buys and sells, for nothing.
        row(village, 0, 80, 0, 0, 80, 0, 0, 30, 15, 0, 0, 0, 0, 0, 0);
        // Houses pay -160 + 40 + 50, the town 23 - 50, the POT the rest.
        row(village, 1, 80, 20, 37, 23, 28, 9, 10, 15, -27, 97, 2, 3, 5, 1);
        // 28 + 37 - 10 = 55, of which 13 are lost; houses pay -160 + 40 + 30, the town 23.
        row(village, 2, 80, 20, 37, 23, 42, 13, 0, 15, 23, 67, 2, 3, 5, 1);
    }

    private static void prices() {
        SunVillage village = Check.village(1);
        Check.text(village, 2, "price pool 1; price pool 2; when hour = 4 price sell 100; when hour = 5 price buy 7; rest first;");
        Check.text(village, 6, "when hour = 8 price pool 0; rest first;");
        row10(village, 1, 0, 0, 0, 0);
        row10(village, 2, 2, 0, 0, 0);
        row10(village, 4, 2, 0, 0, 100);
        row10(village, 5, 2, 0, 7, 100);
        row10(village, 7, 2, 0, 7, 100);
        row10(village, 8, 0, 0, 7, 100);
        row10(village, 239, 0, 0, 7, 100);
    }

    /** "at the prices behind its RULES": also for what was given ahead of them; "0 in quarter 0". */
    private static void pricesAreThoseBehindTheRules() {
        SunVillage village = Check.village(1, 1);
        village.read(0, 0, 0, 10);
        village.read(1, 0, 9, 0);
        Check.text(village, 0, "give 4 from pool to all by heads;"
                + "when hour = 1 price pool 3;when hour = 1 price buy 100;when hour = 2 price pool 0;rest first;");
        int[][] due = {{0, 0, 0}, {-30, 4 * 3 + 5 * 100, -500}, {0, 500, -500}, {0, 500, -500}};
        for (int q = 0; q < due.length; q++) {
            Check.due("who gives pays in quarter " + q, village.had(0, q, 8), due[q][0]);
            Check.due("who wants pays in quarter " + q, village.had(1, q, 8), due[q][1]);
            Check.due("the town pays in quarter " + q, village.quarter(q, 8), due[q][2]);
            Check.due("the POT pays in quarter " + q, village.quarter(q, 9), -due[q][0] - due[q][1] - due[q][2]);
        }
    }

    private static void sumsOfAllHouses() {
        SunVillage village = Check.village();
        int[] lines = {10, 20, 30, 0};
        int[] wants = {15, 27, 39, 0};
        for (int line : lines) {
            village.house(1, line);
        }
        Check.text(village, 0, "fill all;price store 7;price buy 3;give 2 from store to house 0 by heads;"
                + "give 1 from store to house 1 by heads;give 3 from store to house 2 by heads;rest first;");
        for (int h = 0; h < 4; h++) {
            village.read(h, 0, wants[h], h == 3 ? 6 : 0);
        }
        // Bought 8, 19 and 27, DARK 5, 7 and 9; the houses pay 6 * 7 + 54 * 3.
        row(village, 0, 6, 0, 6, 0, 0, 0, 54, 21, -162, -42, 0, 7, 3, 0);
    }

    private static void row10(SunVillage village, int quarter, int... want) {
        for (int k = 0; k < want.length; k++) {
            Check.due("price " + k + " in quarter " + quarter, village.quarter(quarter, 10 + k), want[k]);
        }
    }

    private static void storeIsFull() {
        SunVillage village = new SunVillage(50, 0);
        village.house(1, 0);
        Check.text(village, 0, "fill 0 - 5; fill 30; rest first;");
        village.read(0, 0, 0, 40);
        village.read(0, 2, 0, 10);
        Check.due("filled at first", village.quarter(0, 2), 30);
        Check.due("filled up", village.quarter(1, 2), 20);
        Check.due("the town bought the rest", village.quarter(1, 3), 20);
        Check.due("no more", village.quarter(2, 2), 0);
        Check.due("the STORE", village.quarter(2, 4), 50);
        village.days(1);
        village.read(0, 0, 0, 10);
        Check.due("not more than the POOL has", village.quarter(0, 2), 10);
        Check.due("the STORE then", village.quarter(2, 4), 30);
    }

    /** "AMOUNT, what the POOL has, what the STORE can still take, the least of these .. (below 0: nothing)". */
    private static void fillIsTheLeastOfThree() {
        SunVillage village = new SunVillage(50, 0);
        village.house(1, 0);
        village.read(0, 0, 0, 40);
        Check.text(village, 0, "fill 0 - 1;fill 0;fill 10;fill pool + 1;fill 1;rest first;");
        int[][] due = {{0, 0, 10, 30, 0}, {0, 0, 10, 0, 0}, {0, 0, 0, 0, 0}};
        for (int q = 0; q < due.length; q++) {
            for (int i = 0; i < due[q].length; i++) {
                Check.due("by(" + q + ", " + i + ", NONE)", village.by(q, i, SunVillage.NONE), due[q][i]);
            }
        }
        int[][] stores = {{0, 40}, {1, 50}, {2, 50}, {239, 50}};
        for (int[] s : stores) {
            Check.due("the STORE behind " + s[0], village.quarter(s[0], 4), s[1]);
        }
        // One less than the STORE can take, as much, one more.
        for (int amount = 49; amount <= 51; amount++) {
            SunVillage just = new SunVillage(50, 0);
            just.house(1, 0);
            just.read(0, 0, 0, 60);
            Check.text(just, 0, "fill " + amount + ";rest first;");
            Check.due("filled of " + amount, just.quarter(0, 2), Math.min(50, amount));
            Check.due("the town bought", just.quarter(0, 3), 60 - Math.min(50, amount));
        }
    }

    private static void storeOfNothing() {
        SunVillage village = new SunVillage(0, 500);
        village.house(1, 10);
        village.house(1, 0);
        village.read(0, 0, 10, 0);
        village.read(1, 0, 0, 40);
        Check.text(village, 0, "fill all;give all from store to all by heads;rest first;");
        row(village, 0, 40, 0, 0, 40, 0, 0, 10, 0);
    }

    /** Half of what it has, cut: one alone stays for ever. */
    private static void largestLoss() {
        SunVillage village = new SunVillage(1000000, 500);
        village.house(1, 0);
        village.read(0, 0, 0, 15);
        village.read(0, 1, 0, 0);
        Check.text(village, 0, "fill all;rest first;");
        int[][] due = {{8, 7}, {4, 4}, {2, 2}, {1, 1}, {1, 0}, {1, 0}};
        for (int q = 0; q < due.length; q++) {
            Check.due("the STORE behind " + q, village.quarter(q, 4), due[q][0]);
            Check.due("it lost in " + q, village.quarter(q, 5), due[q][1]);
        }
        Check.due("the STORE at last", village.quarter(239, 4), 1);
    }

    private static void loss() {
        SunVillage village = new SunVillage(1000000, 333);
        village.house(1, 0);
        Check.text(village, 0, "when hour = 0 fill all; rest first;");
        village.read(0, 0, 0, 100);
        int[][] due = {{67, 33}, {45, 22}, {31, 14}, {21, 10}, {15, 6}, {11, 4}, {8, 3}, {6, 2}, {5, 1}, {4, 1}, {3, 1}, {3, 0}};
        for (int q = 0; q < due.length; q++) {
            Check.due("the STORE behind " + q, village.quarter(q, 4), due[q][0]);
            Check.due("it lost in " + q, village.quarter(q, 5), due[q][1]);
        }
        Check.due("what it has then", village.quarter(24, 4), 103 - 34);
    }

    private static void wrongNumbers() {
        SunVillage village = new SunVillage(0, 0);
        int[][] wrong = {{-1, 0}, {240, 0}, {0, -1}, {0, 14}, {Integer.MIN_VALUE, 0}, {Integer.MAX_VALUE, 0},
            {0, Integer.MIN_VALUE}, {0, Integer.MAX_VALUE}};
        for (int[] w : wrong) {
            Check.noSuch("quarter(" + w[0] + ", " + w[1] + ")", () -> village.quarter(w[0], w[1]));
        }
        row(village, 239, 0, 0, 0, 0, 0, 0, 0, 0, 0, 0, 0, 0, 0, 0);
    }
}
