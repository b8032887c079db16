/** Promise 8. */
public final class KnownTest {
    public static void main(String[] args) {
        days();
        readings();
        oneReading();
        fourHundredReadings();
        texts();
        oneText();
        others();
        allLooks();
        bills();
        Check.end("KnownTest");
    }

    private static void days() {
        SunVillage village = Check.village(1);
        Check.due("known(0)", village.known(0), true);
        Check.due("count(8)", village.count(8), 0);
        Check.due("known(1) on day 0", village.known(1), false);
        Check.due("count(8) stays", village.count(8), 0);
        village.days(5);
        Check.due("known(5)", village.known(5), true);
        int[] wrong = {6, -2, Integer.MIN_VALUE, Integer.MAX_VALUE};
        for (int day : wrong) {
            Check.due("known(" + day + ")", village.known(day), false);
            Check.due("count(8) stays", village.count(8), 5);
        }
        Check.due("known(NONE)", village.known(SunVillage.NONE), true);
        Check.due("count(8)", village.count(8), SunVillage.NONE);
    }

    private static void readings() {
        SunVillage village = Check.village(1);
        village.read(0, 3, 10, 0);
        village.days(2);
        village.read(0, 3, 20, 0);
        village.read(0, 1, 5, 0);
        village.days(1);
        wants(village, 0, 0, 10, 10);
        wants(village, 1, 0, 10, 10);
        wants(village, 2, 5, 20, 20);
        wants(village, SunVillage.NONE, 5, 20, 20);
        village.read(0, 3, 30, 0);
        wants(village, 2, 5, 20, 20);
        wants(village, 3, 5, 30, 30);
        wants(village, 0, 0, 10, 10);
        // A look at this day itself sees what comes later on this day.
        village.known(3);
        village.read(0, 4, 40, 0);
        Check.due("WANTS of a reading of the day", village.had(0, 4, 0), 40);
        // NONE goes along with NOW.
        village.known(SunVillage.NONE);
        village.days(4);
        village.read(0, 4, 50, 0);
        Check.due("WANTS as known NOW", village.had(0, 4, 0), 50);
        village.known(6);
        Check.due("WANTS a day ahead", village.had(0, 4, 0), 40);
        Check.due("count(1) is of all", village.count(1), 6);
    }

    /** "known from the day NOW on which it came": not a day ahead of it. */
    private static void oneReading() {
        SunVillage village = Check.village(1);
        village.days(2);
        village.read(0, 3, 10, 4);
        village.days(1);
        int[][] due = {{SunVillage.NONE, 10, 0}, {1, 0, 1}, {2, 10, 0}, {0, 0, 1}, {3, 10, 0}, {1, 0, 1}};
        for (int[] d : due) {
            village.known(d[0]);
            Check.due("WANTS behind it as known on " + d[0], village.had(0, 5, 0), d[1]);
            Check.due("DOUBT as known on " + d[0], village.had(0, 3, 7), d[2]);
            Check.due("OWN as known on " + d[0], village.had(0, 3, 2), d[1] == 0 ? 0 : 4);
            Check.due("WANTS ahead of it as known on " + d[0], village.had(0, 2, 0), 0);
        }
    }

    /** As many as can be there, half of them on the next day. */
    private static void fourHundredReadings() {
        SunVillage village = Check.village(1);
        for (int i = 0; i < 200; i++) {
            village.read(0, i, 1, 0);
        }
        village.days(1);
        for (int i = 0; i < 200; i++) {
            village.read(0, i, 2, 0);
        }
        for (int day = 1; day >= 0; day--) {
            village.known(day);
            for (int q = 239; q >= 0; q -= 30) {
                Check.due("WANTS in quarter " + q + " as known on " + day, village.had(0, q, 0), day + 1);
            }
        }
    }

    private static void wants(SunVillage village, int day, int first, int third, int fourth) {
        village.known(day);
        Check.due("quarter 4 as known on " + day, village.had(0, 4, 0), fourth);
        Check.due("quarter 3 as known on " + day, village.had(0, 3, 0), third);
        Check.due("quarter 1 as known on " + day, village.had(0, 1, 0), first);
        Check.due("DOUBT in 1 as known on " + day, village.had(0, 1, 7), first == 0 ? 1 : 0);
    }

    private static void texts() {
        SunVillage village = Check.village(1);
        village.read(0, 0, 10, 0);
        Check.text(village, 1, "price buy 1;rest first;");
        village.days(1);
        Check.text(village, 3, "price buy 2;price sell 9;rest first;");
        village.days(1);
        Check.text(village, 5, "rest first;");
        int[][] due = {{0, 1, 1, 1, 1, 1}, {0, 1, 1, 2, 2, 2}, {0, 1, 1, 2, 2, 2}};
        for (int day = 2; day >= 0; day--) {
            village.known(day);
            for (int q = 5; q >= 0; q--) {
                Check.due("buy in " + q + " as known on " + day, village.quarter(q, 12), due[day][q]);
            }
        }
        Check.due("by(5, 1, 0) as known on 0", village.by(5, 1, 0), SunVillage.NONE);
        Check.due("by(5, 0, 0) as known on 0", village.by(5, 0, 0), 0);
        village.known(1);
        Check.due("by(5, 1, 0) as known on 1", village.by(5, 1, 0), 0);
        village.known(2);
        Check.due("by(5, 0, 0) as known on 2", village.by(5, 0, 0), SunVillage.NONE);
        village.known(0);
        Check.due("count(3) is of all", village.count(3), 3);
        Check.due("count(6) is of the latest", village.count(6), 0);
        Check.due("a text not above the latest", Check.text(village, 5, "rest first;"), -1);
    }

    private static void oneText() {
        SunVillage village = Check.village(1);
        village.days(2);
        Check.text(village, 3, "price buy 4;rest first;");
        village.days(1);
        int[][] due = {{SunVillage.NONE, 4}, {1, 0}, {2, 4}, {0, 0}, {3, 4}, {1, 0}};
        for (int[] d : due) {
            village.known(d[0]);
            Check.due("buy as known on " + d[0], village.quarter(5, 12), d[1]);
            Check.due("buy ahead of it as known on " + d[0], village.quarter(2, 12), 0);
            Check.due("by(3, 0, 0) as known on " + d[0], village.by(3, 0, 0), d[1] == 0 ? SunVillage.NONE : 0);
        }
    }

    private static void others() {
        SunVillage village = Check.village(1, 1);
        village.read(0, 0, 0, 40);
        village.read(1, 0, 100, 0);
        village.days(1);
        village.read(0, 0, 0, 60);
        Check.other(village, "give all from pool to all by heads;rest first;");
        Check.due("would NOW", village.would(1, 0), 60);
        village.known(0);
        Check.due("would as known on 0", village.would(1, 0), 40);
        village.known(1);
        Check.due("would as known on 1", village.would(1, 0), 60);
    }

    /** "All looks but bills are as known on a day": each of them, one behind the other. */
    private static void allLooks() {
        SunVillage village = Check.village(1, 1);
        village.read(0, 0, 0, 40);
        village.read(1, 0, 100, 0);
        Check.text(village, 0, "give 30 from pool to all by heads;fill all;rest first;");
        Check.other(village, "give all from pool to all by heads;rest first;");
        village.days(1);
        village.read(0, 0, 0, 20);
        int[][] due = {{1, 20, 20, 0, 20, 20}, {0, 40, 30, 10, 30, 40}, {SunVillage.NONE, 20, 20, 0, 20, 20}, {0, 40, 30, 10, 30, 40}};
        for (int[] d : due) {
            village.known(d[0]);
            Check.due("by(0, 1, NONE) as known on " + d[0], village.by(0, 1, SunVillage.NONE), d[3]);
            Check.due("quarter(0, 0) as known on " + d[0], village.quarter(0, 0), d[1]);
        }
        for (int[] d : due) {
            village.known(d[0]);
            Check.due("by(0, 0, 1) as known on " + d[0], village.by(0, 0, 1), d[2]);
            Check.due("had(1, 0, 3) as known on " + d[0], village.had(1, 0, 3), d[4]);
        }
        for (int[] d : due) {
            village.known(d[0]);
            Check.due("would(1, 0) as known on " + d[0], village.would(1, 0), d[5]);
            Check.due("by(5, 0, 1) as known on " + d[0], village.by(5, 0, 1), d[2]);
        }
    }

    private static void bills() {
        SunVillage village = Check.village(1);
        Check.text(village, 0, "price buy 1;rest first;");
        village.read(0, 0, 10, 0);
        village.days(1);
        village.read(0, 0, 20, 0);
        village.known(0);
        village.bills();
        Check.due("bill(0, 0) is as known NOW", village.bill(0, 0), 20 + 23 * 20);
        Check.due("had(0, 0, 8) is not", village.had(0, 0, 8), 10);
        Check.due("count(8) stays", village.count(8), 0);
    }
}
