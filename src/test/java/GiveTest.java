/** Terms 3: whom a RULE gives how much, and when. Seen through promises 9 and 11. */
public final class GiveTest {
    public static void main(String[] args) {
        heads();
        wants();
        shares();
        sharesOfTheEnds();
        shareOfManyIsCut();
        amounts();
        asMuchAsTheSourceHas();
        sources();
        lines();
        leftAsManyAsHouses();
        restFirst();
        restMost();
        restTurn();
        turnGoesByTheQuarterAndAllHouses();
        nothingLeft();
        oneAtMost();
        restOnlyToThoseWithRoom();
        least();
        leastByDays();
        leastByRulesAlone();
        twelveHouses();
        nobody();
        oneHouse();
        conditions();
        wantOfAll();
        Check.end("GiveTest");
    }

    /** The last house's roof gives; the others want. */
    private static SunVillage wanting(int gives, int... wants) {
        SunVillage village = new SunVillage(1000000, 0);
        for (int i = 0; i <= wants.length; i++) {
            village.house(1 + i, 5000);
        }
        readAll(village, 0, gives, wants);
        return village;
    }

    private static void readAll(SunVillage village, int quarter, int gives, int... wants) {
        for (int i = 0; i < wants.length; i++) {
            village.read(i, quarter, wants[i], 0);
        }
        village.read(wants.length, quarter, 0, gives);
    }

    private static void given(String what, SunVillage village, int quarter, int... want) {
        for (int h = 0; h < want.length; h++) {
            Check.due(what + ": house " + h + " in quarter " + quarter,
                    village.had(h, quarter, 3) + village.had(h, quarter, 4), want[h]);
        }
    }

    private static void rules(SunVillage village, String signs) {
        Check.due("fault of " + signs, Check.text(village, 0, signs), 0);
    }

    private static void heads() {
        SunVillage village = wanting(100, 50, 3, 50);
        rules(village, "give 10 from pool to all by heads; rest first;");
        given("10 by heads", village, 0, 4, 3, 3, 0);
        village = wanting(100, 50, 2, 50);
        rules(village, "give 11 from pool to all by heads; rest first;");
        // 3, 2, 3, so that 3 are left: as many as the houses.
        given("11 by heads", village, 0, 3, 2, 3, 0);
    }

    private static void wants() {
        SunVillage village = wanting(100, 10, 20, 70);
        rules(village, "give 33 from pool to all by wants; rest first;");
        given("33 by wants", village, 0, 4, 6, 23, 0);
        // A line that bears less than is wanted weighs what it bears.
        village = new SunVillage(0, 0);
        village.house(1, 10);
        village.house(1, 5000);
        village.house(1, 5000);
        readAll(village, 0, 100, 90, 30);
        rules(village, "give 20 from pool to all by wants; rest first;");
        given("20 by wants and lines", village, 0, 5, 15, 0);
    }

    private static void shares() {
        SunVillage village = wanting(100, 100, 100, 100);
        rules(village, "give 20 from pool to all by shares; rest first;");
        given("20 by shares of 1, 2, 3", village, 0, 4, 6, 10, 0);
        // Only those that want something weigh.
        village = wanting(100, 100, 0, 100);
        rules(village, "give 20 from pool to all by shares; rest first;");
        given("20 by shares of 1, 3", village, 0, 5, 0, 15, 0);
    }

    private static void sharesOfTheEnds() {
        int[][] due = {{1001, 1, 1000}, {1000, 1, 999}, {1, 1, 0}, {2002, 2, 2000}};
        for (int[] d : due) {
            SunVillage village = Check.village(1, 1000, 1);
            readAll(village, 0, 5000, 3000, 3000);
            rules(village, "give " + d[0] + " from pool to all by shares; rest first;");
            given(d[0] + " by shares of 1, 1000", village, 0, d[1], d[2], 0);
        }
    }

    /** 1000000 * 3000 is beyond an int. */
    private static void shareOfManyIsCut() {
        SunVillage village = new SunVillage(1000000, 0);
        for (int h = 0; h < 12; h++) {
            village.house(1, 5000);
        }
        for (int h = 0; h < 12; h++) {
            village.read(h, 0, 0, 5000);
            village.read(h, 17, 3000, 0);
        }
        rules(village, "fill all; when hour = 17 give all from store to all by wants; rest first;");
        Check.due("the STORE is full", village.quarter(16, 4), 1000000);
        for (int h = 0; h < 12; h++) {
            Check.due("all that is wanted", village.had(h, 17, 4), 3000);
        }
        Check.due("the STORE behind", village.quarter(17, 4), 964000);
    }

    private static void amounts() {
        SunVillage village = wanting(40, 50, 50);
        rules(village, "give 5 - 6 from pool to all by heads; give 0 from pool to all by heads;"
                + "give pool - 30 from pool to all by heads; give 3 < 4 from pool to house 1 by heads;"
                + "give 999999 from pool to house 0 by heads; give all from pool to all by heads; rest first;");
        int[][] due = {{0, 0}, {0, 0}, {5, 5}, {0, 1}, {29, 0}, {0, 0}};
        for (int i = 0; i < due.length; i++) {
            Check.due("by rule " + i + " house 0", village.by(0, i, 0), due[i][0]);
            Check.due("by rule " + i + " house 1", village.by(0, i, 1), due[i][1]);
        }
    }

    /** "the source's at most (all: that)": one less, as much, one more. */
    private static void asMuchAsTheSourceHas() {
        String[] amounts = {"39", "40", "41", "all"};
        for (int k = 0; k < amounts.length; k++) {
            SunVillage village = wanting(40, 50, 50);
            rules(village, "give " + amounts[k] + " from pool to all by heads; rest first;");
            given(amounts[k] + " of a POOL of 40", village, 0, 20, k == 0 ? 19 : 20, 0);
            village = wanting(40, 50, 50);
            rules(village, "fill all; give " + amounts[k] + " from store to all by heads; rest first;");
            given(amounts[k] + " of a STORE of 40", village, 0, 20, k == 0 ? 19 : 20, 0);
            Check.due("what the STORE has left", village.quarter(0, 4), k == 0 ? 1 : 0);
        }
    }

    private static void sources() {
        SunVillage village = wanting(40, 50, 50);
        rules(village, "give 10 from store to all by heads; fill 15; give 8 from store to house 0 by heads;"
                + "give 6 from pool to house 0 by heads; rest first;");
        Check.due("nothing in the STORE yet", village.by(0, 0, 0), 0);
        Check.due("from the POOL", village.had(0, 0, 3), 6);
        Check.due("from the STORE", village.had(0, 0, 4), 8);
        Check.due("the STORE behind", village.quarter(0, 4), 7);
        Check.due("the town bought", village.quarter(0, 3), 19);
        Check.due("houses had of the POOL", village.quarter(0, 1), 6);
        Check.due("seven from the STORE to two", village.by(1, 0, 0) * 10 + village.by(1, 0, 1), 43);
    }

    private static void lines() {
        SunVillage village = new SunVillage(0, 0);
        village.house(1, 7);
        village.house(1, 100);
        village.house(1, 100);
        readAll(village, 0, 100, 50, 50);
        rules(village, "give 10 from pool to all by heads; give 10 from pool to all by heads;"
                + "give 10 from pool to all by heads; rest first;");
        // Behind the second one the line of house 0 bears no more, so that the third is for house 1 alone.
        int[][] due = {{5, 5}, {2, 5}, {0, 10}};
        for (int i = 0; i < due.length; i++) {
            Check.due("line: rule " + i + " house 0", village.by(0, i, 0), due[i][0]);
            Check.due("line: rule " + i + " house 1", village.by(0, i, 1), due[i][1]);
        }
        Check.due("nothing left to buy by", village.had(0, 0, 5), 0);
        Check.due("DARK", village.had(0, 0, 6), 43);
        Check.due("a line of another quarter", village.by(1, 0, 0), 5);
    }

    private static void leftAsManyAsHouses() {
        // 4 each: 2, 4, 4 leave 2, less than three.
        SunVillage village = wanting(100, 2, 50, 50);
        rules(village, "give 12 from pool to all by heads; rest first;");
        given("two left of three", village, 0, 2, 5, 5, 0);
        // 4 each: 1, 4, 4 leave 3, as many as they are, though the village has a fourth.
        village = wanting(100, 1, 50, 50);
        rules(village, "give 12 from pool to all by heads; rest first;");
        given("three left of three", village, 0, 1, 4, 4, 0);
        Check.due("the POOL keeps it", village.quarter(0, 3), 91);
    }

    private static void restFirst() {
        SunVillage village = wanting(100, 9, 10, 11);
        rules(village, "give 5 from pool to all by heads; rest first;");
        given("first", village, 0, 2, 2, 1, 0);
        village = wanting(100, 9, 10, 11);
        rules(village, "give 2 from pool to all by heads; rest first;");
        given("less than the houses", village, 0, 1, 1, 0, 0);
    }

    private static void restMost() {
        SunVillage village = wanting(100, 9, 10, 11);
        rules(village, "give 5 from pool to all by heads; rest most;");
        given("most", village, 0, 1, 2, 2, 0);
        village = wanting(100, 9, 11, 9, 9);
        rules(village, "give 6 from pool to all by heads; rest most;");
        given("most, equal ones", village, 0, 2, 2, 1, 1, 0);
        int[][] mixed = {{30, 10, 20, 40, 2, 1, 1, 2}, {40, 30, 20, 10, 2, 2, 1, 1}, {20, 40, 10, 40, 1, 2, 1, 2},
            {40, 10, 30, 30, 2, 1, 2, 1}};
        for (int[] m : mixed) {
            village = wanting(100, m[0], m[1], m[2], m[3]);
            rules(village, "give 6 from pool to all by heads; rest most;");
            given("most, in any order", village, 0, m[4], m[5], m[6], m[7], 0);
        }
        // House 1 wants most, whatever its line bears, and its line still bears one.
        village = new SunVillage(0, 0);
        village.house(1, 5000);
        village.house(1, 3);
        village.house(1, 5000);
        readAll(village, 0, 100, 50, 90);
        rules(village, "give 5 from pool to all by heads; rest most;");
        given("most, line or not", village, 0, 2, 3, 0);
        // What they still want behind their parts counts: 20 - 15 against 8 - 2.
        village = new SunVillage(0, 0);
        village.house(7, 5000);
        village.house(1, 5000);
        village.house(1, 5000);
        readAll(village, 0, 100, 20, 8);
        rules(village, "give 18 from pool to all by shares; rest most;");
        given("most, still", village, 0, 15, 3, 0);
    }

    private static void restTurn() {
        SunVillage village = wanting(100, 50, 50, 50);
        rules(village, "give 4 from pool to all by heads; rest turn;");
        int[][] due = {{2, 1, 1}, {1, 2, 1}, {1, 1, 2}, {2, 1, 1}};
        for (int q = 0; q < 12; q++) {
            given("turn", village, q, due[q % 4][0], due[q % 4][1], due[q % 4][2], 0);
        }
        village = wanting(100, 50, 50, 50);
        rules(village, "give 5 from pool to all by heads; rest turn;");
        int[][] two = {{2, 2, 1}, {1, 2, 2}, {2, 1, 2}, {2, 2, 1}};
        for (int q = 24; q < 36; q++) {
            given("turn of two", village, q, two[q % 4][0], two[q % 4][1], two[q % 4][2], 0);
        }
    }

    /** Five houses, so that neither the hour nor those who want something tell the same turn. */
    private static void turnGoesByTheQuarterAndAllHouses() {
        SunVillage village = wanting(100, 50, 50, 50, 50);
        rules(village, "give 1 from pool to all by heads; rest turn;");
        int[] quarters = {0, 3, 4, 5, 23, 24, 26, 47, 48, 238, 239};
        for (int q : quarters) {
            int turn = q % 5 == 4 ? 0 : q % 5;
            for (int h = 0; h < 4; h++) {
                Check.due("turn in quarter " + q + ": house " + h, village.by(q, 0, h), h == turn ? 1 : 0);
            }
        }
        // The first not below that number that still can have it: house 1 wants nothing.
        village = wanting(100, 50, 0, 50, 1);
        rules(village, "give 1 from pool to house 3 by heads; give 3 from pool to all by heads; rest turn;");
        int[][] due = {{2, 0, 1}, {1, 0, 2}, {1, 0, 2}, {2, 0, 1}, {2, 0, 1}, {2, 0, 1}, {1, 0, 2}};
        for (int q = 0; q < due.length; q++) {
            given("turn of those that can", village, q, due[q][0], due[q][1], due[q][2], 1, 0);
        }
    }

    private static void nothingLeft() {
        String[] ways = {"first", "most", "turn"};
        for (String how : ways) {
            SunVillage village = wanting(100, 50, 50, 50);
            rules(village, "give 12 from pool to all by heads; rest " + how + ";");
            given("nothing left, " + how, village, 1, 4, 4, 4, 0);
        }
    }

    /** "each one at most": two are left, and but one house can have any of them, wherever it stands. */
    private static void oneAtMost() {
        int[][] wants = {{50, 3, 3}, {3, 50, 3}, {3, 3, 50}};
        String[] ways = {"first", "most", "turn"};
        for (int[] w : wants) {
            for (String how : ways) {
                SunVillage village = wanting(100, w);
                rules(village, "give 12 from pool to all by heads; rest " + how + ";");
                for (int q = 0; q < 8; q++) {
                    given("one at most, " + how, village, q, Math.min(5, w[0]), Math.min(5, w[1]), Math.min(5, w[2]), 0);
                    Check.due("one stays", village.quarter(q, 3), 89);
                }
            }
        }
    }

    private static void restOnlyToThoseWithRoom() {
        // 4 each: 3, 4, 4: one is left for 0, who wants no more, so that 1 has it.
        SunVillage village = wanting(100, 3, 50, 50);
        rules(village, "give 12 from pool to all by heads; rest first;");
        given("no want", village, 0, 3, 5, 4, 0);
        // 4 each: 4, 3, 3: two are left, and house 0 can have only one of them.
        village = wanting(100, 50, 3, 3);
        rules(village, "give 12 from pool to all by heads; rest first;");
        given("one at most", village, 0, 5, 3, 3, 0);
        Check.due("one stays", village.quarter(0, 3), 89);
        // A line that bears no more.
        village = new SunVillage(0, 0);
        village.house(1, 2);
        village.house(1, 5000);
        village.house(1, 5000);
        readAll(village, 0, 100, 50, 50);
        rules(village, "give 5 from pool to all by heads; rest most;");
        given("no line", village, 0, 2, 3, 0);
    }

    private static void least() {
        SunVillage village = wanting(100, 50, 50, 50);
        rules(village, "give 6 from pool to least 2 by heads; give 6 from pool to least 1 by heads;"
                + "give 9 from pool to least 2 by heads; give 3 from pool to least 12 by heads; rest first;");
        int[][] due = {{3, 3, 0}, {0, 0, 6}, {5, 4, 0}, {1, 1, 1}};
        for (int i = 0; i < due.length; i++) {
            for (int h = 0; h < 3; h++) {
                Check.due("least: rule " + i + " house " + h, village.by(0, i, h), due[i][h]);
            }
        }
        // Those that want nothing, or whose line bears nothing, are not among the N.
        village = new SunVillage(0, 0);
        village.house(1, 5000);
        village.house(1, 0);
        village.house(1, 5000);
        village.house(1, 5000);
        readAll(village, 0, 100, 0, 50, 50);
        rules(village, "give 6 from pool to least 1 by heads; rest first;");
        given("least of such", village, 0, 0, 0, 6, 0);
    }

    private static void leastByDays() {
        SunVillage village = wanting(100, 50, 50, 50);
        rules(village, "when hour = 0 give 9 from pool to house 0 by heads;"
                + "when hour = 3 give 9 from pool to house 1 by heads;"
                + "when 3 < hour give 2 from pool to least 1 by heads; rest first;");
        given("house 2 had nothing", village, 4, 0, 0, 2);
        given("nor 9", village, 7, 0, 0, 2);
        given("2 had 8, takes 10", village, 8, 0, 0, 2);
        given("0 and 1 had 9", village, 9, 2, 0, 0);
        given("1 had 9", village, 10, 0, 2, 0);
        given("2 had 10", village, 11, 0, 0, 2);
        // The day before counts no more.
        Check.text(village, 24, "give 1 from pool to least 1 by heads; rest first;");
        given("a new day", village, 24, 1, 0, 0);
        given("a new day", village, 25, 0, 1, 0);
        given("a new day", village, 26, 0, 0, 1);
        given("a new day", village, 27, 1, 0, 0);
        given("another day", village, 48, 1, 0, 0);
    }

    /** "had least (by rules)": neither the OWN nor what was bought, but what came from the STORE as well. */
    private static void leastByRulesAlone() {
        SunVillage village = wanting(100, 50, 30);
        village.read(0, 0, 50, 20);
        rules(village, "when hour = 0 give 1 from pool to house 1 by heads;"
                + "when hour = 1 give 4 from pool to least 1 by heads; rest first;");
        Check.due("house 0 bought", village.had(0, 0, 5), 30);
        given("house 0 had least by rules", village, 1, 4, 0);
        village = wanting(100, 50, 50);
        rules(village, "when hour = 0 fill 10; when hour = 0 give 2 from store to house 0 by heads;"
                + "when hour = 0 give 1 from pool to house 1 by heads;"
                + "give 4 from pool to least 1 by heads; rest first;");
        given("in this quarter, too", village, 0, 2, 5);
        given("house 0 had 2", village, 1, 4, 0);
        given("house 1 had 5", village, 2, 0, 4);
    }

    /** A full village, all of whom want something at once. */
    private static void twelveHouses() {
        SunVillage village = new SunVillage(1000000, 0);
        for (int h = 0; h < 12; h++) {
            village.house(1, 5000);
        }
        for (int h = 0; h < 12; h++) {
            village.read(h, 0, 0, 100);
            village.read(h, 1, 10 + h, 0);
        }
        rules(village, "fill all; rest first;");
        Check.text(village, 1, "give 24 from store to least 11 by heads; give 5 from store to least 12 by heads;"
                + "give want from store to all by wants; rest most;");
        int[][] due = {{2, 2, 2, 2, 2, 2, 2, 2, 2, 3, 3, 0}, {0, 0, 0, 0, 0, 0, 0, 1, 1, 1, 1, 1}};
        for (int h = 0; h < 12; h++) {
            Check.due("to 11 of 12: house " + h, village.by(1, 0, h), due[0][h]);
            Check.due("to 12 of 12: house " + h, village.by(1, 1, h), due[1][h]);
            Check.due("all they still want: house " + h, village.by(1, 2, h), 10 + h - due[0][h] - due[1][h]);
        }
        Check.due("the STORE behind", village.quarter(1, 4), 1200 - 186);
        // As many as the houses are stay, one less is given.
        Check.text(village, 2, "give 11 from store to all by heads; give 12 from store to least 1 by heads; rest turn;");
        for (int h = 0; h < 12; h++) {
            Check.due("11 of 12, by turn: house " + h, village.by(2, 0, h), h == 1 ? 0 : 1);
            Check.due("the least: house " + h, village.by(2, 1, h), h == 0 ? 9 : 0);
        }
    }

    /** A village without houses, and one where nobody wants anything: nothing is given. */
    private static void nobody() {
        String[] ways = {"first", "most", "turn"};
        for (String how : ways) {
            SunVillage village = new SunVillage(10, 0);
            rules(village, "give all from pool to all by shares; give 5 from store to least 12 by heads;"
                    + "fill want + 1; rest " + how + ";");
            Check.due("filled of nothing", village.by(239, 2, SunVillage.NONE), 0);
            Check.due("POOL of nobody", village.quarter(239, 0), 0);
            village = wanting(100, 0, 0);
            rules(village, "give all from pool to all by wants; give 5 from pool to least 1 by shares; rest " + how + ";");
            given("nobody wants", village, 1, 0, 0, 0);
            Check.due("the town bought", village.quarter(1, 3), 100);
        }
    }

    private static void oneHouse() {
        SunVillage village = wanting(100, 50, 50, 0);
        rules(village, "give 10 from pool to house 1 by shares; give 10 from pool to house 2 by wants;"
                + "give 10 from pool to house 3 by wants; rest first;");
        given("one house", village, 0, 0, 10, 0, 0);
    }

    private static void conditions() {
        fires("hour", 24, false);
        fires("hour", 25, true);
        fires("hour = 23", 47, true);
        fires("day = 2", 47, false);
        fires("day = 2", 48, true);
        fires("day < 10", 239, true);
        fires("pool = 100", 0, true);
        fires("want = 60", 0, true);
        fires("store = 0", 0, true);
        fires("0", 0, false);
        fires("0 - 1", 0, true);
        fires("3 - 3", 0, false);
        fires("9 - 3 - 2 = 4", 0, true);
        fires("9 - (3 - 2) = 8", 0, true);
        fires("9 - 3 + 2 = 8", 0, true);
        fires("1 < 1", 0, false);
        fires("1 < 2", 0, true);
        fires("2 < 1", 0, false);
        fires("2 = 1", 0, false);
        fires("0 - 5 < 0", 0, true);
        fires("1 + 1 < 1 + 2", 0, true);
        fires("(1 < 2) + (2 < 3) = 2", 0, true);
        fires("5 - (1 < (2 = (3 - (2 - (1))))) = 5", 0, true);
        fires("999999 + 1 = 999998 + 2", 0, true);
        fires("8 = 9-(7 = 8-(6 = 7-(5 = 6-(1 = 2-(1 < 4-2)))))", 0, true);
        fires("8 = 9-(7 = 8-(6 = 7-(5 = 6-(1 = 2-(1 < 4-3)))))", 0, false);
        fires("hour = 0", 23, false);
        fires("hour = 0", 24, true);
        fires("hour = 23", 239, true);
        fires("day", 23, false);
        fires("day", 24, true);
        fires("day = 9", 239, true);
        fires("day = 9", 215, false);
        fires("day = 9", 216, true);
    }

    private static void fires(String condition, int quarter, boolean want) {
        SunVillage village = wanting(100, 60);
        rules(village, "when " + condition + " give 7 from pool to all by heads; rest first;");
        Check.due("when " + condition + " in quarter " + quarter, village.by(quarter, 0, 0), want ? 7 : 0);
    }

    private static void wantOfAll() {
        SunVillage village = wanting(1000, 50, 60);
        rules(village, "give 20 from pool to all by heads; fill want; fill store; give store - 100 from store to all by wants;"
                + "rest first;");
        Check.due("what all still want", village.by(0, 1, SunVillage.NONE), 90);
        Check.due("what the STORE has then", village.by(0, 2, SunVillage.NONE), 90);
        Check.due("by wants of 40", village.by(0, 3, 0), 36);
        Check.due("by wants of 50", village.by(0, 3, 1), 44);
    }
}
