/** Promise 8. */
public final class KnownTest {
    public static void main(String[] args) {
        days();
        readings();
        texts();
        others();
        bills();
        Check.end("KnownTest");
    }

    private static void days() {
        SunVillage village = Check.village(1);
        Check.due("known(0)", village.known(0), true);
        Check.due("count(8)", village.count(8), 0);
        Check.due("known(1) on day 0", village.known(1), false);
        Check.due("count(8) stays", village.count(8), 0);
        village.days(5);
        Check.due("known(5)", village.known(5), true);
        int[] wrong = {6, -2, Integer.MIN_VALUE, Integer.MAX_VALUE};
        for (int day : wrong) {
            Check.due("known(" + day + ")", village.known(day), false);
            Check.due("count(8) stays", village.count(8), 5);
        }
        Check.due("known(NONE)", village.known(SunVillage.NONE), true);
        Check.due("count(8)", village.count(8), SunVillage.NONE);
    }

    private static void readings() {
        SunVillage village = Check.village(1);
        village.read(0, 3, 10, 0);
        village.days(2);
        village.read(0, 3, 20, 0);
        village.read(0, 1, 5, 0);
        village.days(1);
        wants(village, 0, 0, 10, 10);
        wants(village, 1, 0, 10, 10);
        wants(village, 2, 5, 20, 20);
        wants(village, SunVillage.NONE, 5, 20, 20);
        village.read(0, 3, 30, 0);
        wants(village, 2, 5, 20, 20);
        wants(village, 3, 5, 30, 30);
        wants(village, 0, 0, 10, 10);
        // A look at this day itself sees what comes later on this day.
        village.known(3);
        village.read(0, 4, 40, 0);
        Check.due("WANTS of a reading of the day", village.had(0, 4, 0), 40);
        // NONE goes along with NOW.
        village.known(SunVillage.NONE);
        village.days(4);
        village.read(0, 4, 50, 0);
        Check.due("WANTS as known NOW", village.had(0, 4, 0), 50);
        village.known(6);
        Check.due("WANTS a day ahead", village.had(0, 4, 0), 40);
        Check.due("count(1) is of all", village.count(1), 6);
    }

    private static void wants(SunVillage village, int day, int first, int third, int fourth) {
        village.known(day);
        Check.due("quarter 4 as known on " + day, village.had(0, 4, 0), fourth);
        Check.due("quarter 3 as known on " + day, village.had(0, 3, 0), third);
        Check.due("quarter 1 as known on " + day, village.had(0, 1, 0), first);
        Check.due("DOUBT in 1 as known on " + day, village.had(0, 1, 7), first == 0 ? 1 : 0);
    }

    private static void texts() {
        SunVillage village = Check.village(1);
        village.read(0, 0, 10, 0);
        Check.text(village, 1, "price buy 1;rest first;");
        village.days(1);
        Check.text(village, 3, "price buy 2;price sell 9;rest first;");
        village.days(1);
        Check.text(village, 5, "rest first;");
        int[][] due = {{0, 1, 1, 1, 1, 1}, {0, 1, 1, 2, 2, 2}, {0, 1, 1, 2, 2, 2}};
        for (int day = 2; day >= 0; day--) {
            village.known(day);
            for (int q = 5; q >= 0; q--) {
                Check.due("buy in " + q + " as known on " + day, village.quarter(q, 12), due[day][q]);
            }
        }
        Check.due("by(5, 1, 0) as known on 0", village.by(5, 1, 0), SunVillage.NONE);
        Check.due("by(5, 0, 0) as known on 0", village.by(5, 0, 0), 0);
        village.known(1);
        Check.due("by(5, 1, 0) as known on 1", village.by(5, 1, 0), 0);
        village.known(2);
        Check.due("by(5, 0, 0) as known on 2", village.by(5, 0, 0), SunVillage.NONE);
        village.known(0);
        Check.due("count(3) is of all", village.count(3), 3);
        Check.due("count(6) is of the latest", village.count(6), 0);
        Check.due("a text not above the latest", Check.text(village, 5, "rest first;"), -1);
    }

    private static void others() {
        SunVillage village = Check.village(1, 1);
        village.read(0, 0, 0, 40);
        village.read(1, 0, 100, 0);
        village.days(1);
        village.read(0, 0, 0, 60);
        Check.other(village, "give all from pool to all by heads;rest first;");
        Check.due("would NOW", village.would(1, 0), 60);
        village.known(0);
        Check.due("would as known on 0", village.would(1, 0), 40);
        village.known(1);
        Check.due("would as known on 1", village.would(1, 0), 60);
    }

    private static void bills() {
        SunVillage village = Check.village(1);
        Check.text(village, 0, "price buy 1;rest first;");
        village.read(0, 0, 10, 0);
        village.days(1);
        village.read(0, 0, 20, 0);
        village.known(0);
        village.bills();
        Check.due("bill(0, 0) is as known NOW", village.bill(0, 0), 20 + 23 * 20);
        Check.due("had(0, 0, 8) is not", village.had(0, 0, 8), 10);
        Check.due("count(8) stays", village.count(8), 0);
    }
}
