/** Promises 13 and 14. */
public final class BillsTest {
    public static void main(String[] args) {
        tenDays();
        billsThatAreOutStand();
        likewiseTownAndPot();
        wrongNumbers();
        noHouses();
        fullVillage();
        refusedChangesNothing();
        allAtOnce();
        daysThatAreYetToCome();
        Check.end("BillsTest");
    }

    private static void tenDays() {
        SunVillage village = Check.village(1);
        Check.text(village, 0, "price buy 1; rest first;");
        village.read(0, 0, 10, 0);
        village.read(0, 30, 20, 0);
        int[] due = {240, 60 + 18 * 20, 480, 480, 480, 480, 480, 480, 480, 480};
        for (int day = 0; day < 10; day++) {
            Check.due("bills()", village.bills(), day);
            Check.due("count(4)", village.count(4), day + 1);
            Check.due("bill of day " + day, village.bill(day, 0), due[day]);
            Check.due("the town's", village.bill(day, -1), -due[day]);
            Check.due("the POT's", village.bill(day, -2), 0);
        }
        Check.due("an 11th bills()", village.bills(), SunVillage.NONE);
        Check.due("count(4)", village.count(4), 10);
    }

    private static void billsThatAreOutStand() {
        SunVillage village = Check.village(1);
        Check.text(village, 0, "price buy 1; rest first;");
        village.read(0, 0, 10, 0);
        village.bills();
        village.days(1);
        village.read(0, 0, 3, 0);
        village.read(0, 24, 5, 0);
        Check.due("the bill that is out", village.bill(0, 0), 240);
        village.bills();
        Check.due("the next puts it right", village.bill(1, 0), 24 * 3 + 24 * 5 - 240);
        Check.due("the bill that is out", village.bill(0, 0), 240);
        village.read(0, 24, 0, 0);
        village.read(0, 48, 1, 0);
        village.bills();
        Check.due("and the next", village.bill(2, 0), 24 * 3 + 24 - 24 * 3 - 24 * 5);
    }

    private static void likewiseTownAndPot() {
        SunVillage village = Check.village(1, 1);
        Check.text(village, 0, "price pool 3; price buy 7; price sell 2; give 10 from pool to all by heads; rest first;");
        village.read(0, 0, 0, 15);
        village.read(1, 0, 16, 0);
        village.bills();
        Check.due("who gives", village.bill(0, 0), -24 * 45);
        Check.due("who wants", village.bill(0, 1), 24 * (30 + 42));
        Check.due("the town", village.bill(0, -1), 24 * (10 - 42));
        Check.due("the POT", village.bill(0, -2), 24 * (45 - 72 - 10 + 42));
        village.read(0, 0, 0, 10);
        village.read(0, 24, 0, 0);
        village.bills();
        // Day 0 comes to -30, 72, -42 and 0 in each quarter, day 1 to 0, 112, -112 and 0.
        Check.due("who gave", village.bill(1, 0), -24 * 30 + 24 * 45);
        Check.due("who wants", village.bill(1, 1), 24 * (72 + 112) - 24 * 72);
        Check.due("the town", village.bill(1, -1), 24 * (-42 - 112) + 24 * 32);
        Check.due("the POT", village.bill(1, -2), -24 * 5);
    }

    private static void wrongNumbers() {
        SunVillage village = Check.village(1, 1);
        Check.noSuch("bill(0, 0) that is not out", () -> village.bill(0, 0));
        village.bills();
        int[][] wrong = {{-1, 0}, {1, 0}, {10, 0}, {0, 2}, {0, -3}, {Integer.MIN_VALUE, 0}, {Integer.MAX_VALUE, 0},
            {0, Integer.MIN_VALUE}, {0, Integer.MAX_VALUE}};
        for (int[] w : wrong) {
            Check.noSuch("bill(" + w[0] + ", " + w[1] + ")", () -> village.bill(w[0], w[1]));
        }
        for (int house = -2; house < 2; house++) {
            Check.due("bill(0, " + house + ")", village.bill(0, house), 0);
        }
    }

    /** Twelve houses and ten days: no bill stands in another's place. */
    private static void fullVillage() {
        SunVillage village = new SunVillage(0, 0);
        for (int h = 0; h < 12; h++) {
            village.house(1, 5000);
        }
        Check.text(village, 0, "price buy 2; when day = 9 price buy 3; rest first;");
        for (int h = 0; h < 12; h++) {
            village.read(h, 0, 1 + h, 0);
        }
        for (int day = 0; day < 10; day++) {
            Check.due("bills()", village.bills(), day);
        }
        for (int day = 0; day < 10; day++) {
            int price = day == 9 ? 3 : 2;
            for (int h = 0; h < 12; h++) {
                Check.due("bill(" + day + ", " + h + ")", village.bill(day, h), 24 * price * (1 + h));
            }
            Check.due("bill(" + day + ", -1)", village.bill(day, -1), -24 * price * 78);
            Check.due("bill(" + day + ", -2)", village.bill(day, -2), 0);
        }
        int[][] wrong = {{10, 0}, {9, 12}, {9, -3}, {-1, 11}};
        for (int[] w : wrong) {
            Check.noSuch("bill(" + w[0] + ", " + w[1] + ")", () -> village.bill(w[0], w[1]));
        }
    }

    /** "NONE: it is 10": the bills that are out stand, whatever comes to be known. */
    private static void refusedChangesNothing() {
        SunVillage village = Check.village(1);
        Check.text(village, 0, "price buy 1; rest first;");
        village.read(0, 0, 10, 0);
        for (int day = 0; day < 10; day++) {
            village.bills();
        }
        village.read(0, 0, 99, 0);
        for (int i = 0; i < 3; i++) {
            Check.due("bills() beyond the last day", village.bills(), SunVillage.NONE);
        }
        Check.due("count(4)", village.count(4), 10);
        for (int day = 0; day < 10; day++) {
            Check.due("bill(" + day + ", 0)", village.bill(day, 0), 240);
        }
        Check.noSuch("bill(10, 0)", () -> village.bill(10, 0));
    }

    /** The most that all quarters can come to, on the bill of the last day. */
    private static void allAtOnce() {
        SunVillage village = new SunVillage(0, 0);
        for (int h = 0; h < 12; h++) {
            village.house(1, 5000);
        }
        Check.text(village, 0, "price pool 100; price sell 99; rest first;");
        for (int day = 0; day < 9; day++) {
            village.bills();
        }
        for (int h = 0; h < 12; h++) {
            village.read(h, 0, 0, 5000);
        }
        Check.due("bills()", village.bills(), 9);
        Check.due("a house's", village.bill(9, 11), -240 * 500000);
        Check.due("the town's", village.bill(9, -1), 240 * 60000 * 99);
        Check.due("the POT's", village.bill(9, -2), 240 * 60000);
        Check.due("the POT's of the day ahead", village.bill(8, -2), 0);
    }

    /** Bills are of the quarters' days, whichever day NOW is; one is out only when it went out. */
    private static void daysThatAreYetToCome() {
        SunVillage village = Check.village(1);
        Check.text(village, 23, "price buy 1; rest first;");
        village.read(0, 23, 5, 0);
        village.read(0, 24, 700, 0);
        village.days(100);
        Check.noSuch("bill(0, 0) ahead of it", () -> village.bill(0, 0));
        Check.due("bills()", village.bills(), 0);
        Check.due("up to the end of its day", village.bill(0, 0), 5);
        Check.noSuch("bill(1, 0) ahead of it", () -> village.bill(1, 0));
        Check.noSuch("bill(1, -1) ahead of it", () -> village.bill(1, -1));
        Check.noSuch("bill(1, -2) ahead of it", () -> village.bill(1, -2));
        Check.due("bills()", village.bills(), 1);
        Check.due("the next day", village.bill(1, 0), 24 * 700);
    }

    private static void noHouses() {
        SunVillage village = new SunVillage(0, 0);
        Check.due("bills() of nobody", village.bills(), 0);
        Check.due("the town's", village.bill(0, -1), 0);
        Check.due("the POT's", village.bill(0, -2), 0);
        Check.noSuch("bill(0, 0) of nobody", () -> village.bill(0, 0));
        Check.due("a house behind it", village.house(1, 1), 0);
        Check.due("its bill", village.bill(0, 0), 0);
    }
}
