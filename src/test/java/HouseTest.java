/** Promise 2. */
public final class HouseTest {
    private static final int NONE = SunVillage.NONE;

    public static void main(String[] args) {
        numbers();
        wrongNumbers();
        closed();
        openStill();
        Check.end("HouseTest");
    }

    private static void numbers() {
        SunVillage village = new SunVillage(0, 0);
        for (int h = 0; h < 12; h++) {
            Check.due("house " + h, village.house(1 + 90 * h, 400 * h), h);
        }
        Check.due("a 13th house", village.house(1, 1), NONE);
        Check.due("count(0)", village.count(0), 12);
    }

    private static void wrongNumbers() {
        SunVillage village = new SunVillage(0, 0);
        int[][] wrong = {{0, 0}, {-1, 0}, {1001, 0}, {1, -1}, {1, 5001},
            {Integer.MIN_VALUE, 1}, {Integer.MAX_VALUE, 1}, {1, Integer.MIN_VALUE}, {1, Integer.MAX_VALUE}};
        for (int[] w : wrong) {
            Check.due("house(" + w[0] + ", " + w[1] + ")", village.house(w[0], w[1]), NONE);
        }
        Check.due("house(1, 0)", village.house(1, 0), 0);
        Check.due("house(1000, 5000)", village.house(1000, 5000), 1);
    }

    /** "a READING or a text (the OTHER, too) is there": nothing else closes the village. */
    private static void openStill() {
        SunVillage village = new SunVillage(0, 0);
        Check.due("the first", village.house(1, 1), 0);
        Check.feed(village, "rest first;");
        Check.due("behind signs on the TAPE", village.house(1, 1), 1);
        village.text(-1);
        Check.due("behind a text for no quarter", village.house(1, 1), 2);
        village.days(100);
        village.known(50);
        Check.due("behind days", village.house(1, 1), 3);
        village.bills();
        Check.due("behind bills", village.house(1, 1), 4);
        village.had(4, 239, 8);
        village.quarter(239, 4);
        Check.due("behind looks", village.house(1, 1), 5);
        village.house(0, 0);
        Check.due("behind a refused house", village.house(1, 1), 6);
        Check.due("count(0)", village.count(0), 7);
        // Of those that came behind the looks all is as it should be.
        Check.due("WANTS of the last", village.had(6, 239, 0), 0);
        Check.due("DOUBT of the last", village.had(6, 0, 7), 1);
        village.known(NONE);
        Check.due("a reading of the last", village.read(6, 0, 3, 0), true);
        Check.due("its line bears", village.had(6, 239, 5), 1);
    }

    private static void closed() {
        SunVillage read = Check.village(1);
        read.read(5, 0, 0, 0);
        read.read(0, 240, 0, 0);
        Check.due("house behind refused readings", read.house(1, 1), 1);
        read.read(0, 0, 0, 0);
        Check.due("house behind a reading", read.house(1, 1), NONE);

        SunVillage text = Check.village(1);
        Check.due("a text with a fault", Check.text(text, 0, "rest ;"), 1 + 16 * 5);
        Check.due("no such quarter", Check.text(text, 240, "rest first ;"), -1);
        Check.due("house behind refused texts", text.house(1, 1), 1);
        Check.due("a text", Check.text(text, 0, "rest first ;"), 0);
        Check.due("house behind a text", text.house(1, 1), NONE);

        SunVillage other = Check.village(1);
        Check.due("an other text with a fault", Check.other(other, "rest ;"), 1 + 16 * 5);
        Check.due("house behind a refused other text", other.house(1, 1), 1);
        Check.due("an other text", Check.other(other, "rest first ;"), 0);
        Check.due("house behind an other text", other.house(1, 1), NONE);
    }
}
