/** Promise 2. */
public final class HouseTest {
    private static final int NONE = SunVillage.NONE;

    public static void main(String[] args) {
        numbers();
        wrongNumbers();
        closed();
        Check.end("HouseTest");
    }

    private static void numbers() {
        SunVillage village = new SunVillage(0, 0);
        for (int h = 0; h < 12; h++) {
            Check.due("house " + h, village.house(1 + 90 * h, 400 * h), h);
        }
        Check.due("a 13th house", village.house(1, 1), NONE);
        Check.due("count(0)", village.count(0), 12);
    }

    private static void wrongNumbers() {
        SunVillage village = new SunVillage(0, 0);
        int[][] wrong = {{0, 0}, {-1, 0}, {1001, 0}, {1, -1}, {1, 5001},
            {Integer.MIN_VALUE, 1}, {Integer.MAX_VALUE, 1}, {1, Integer.MIN_VALUE}, {1, Integer.MAX_VALUE}};
        for (int[] w : wrong) {
            Check.due("house(" + w[0] + ", " + w[1] + ")", village.house(w[0], w[1]), NONE);
        }
        Check.due("house(1, 0)", village.house(1, 0), 0);
        Check.due("house(1000, 5000)", village.house(1000, 5000), 1);
    }

    private static void closed() {
        SunVillage read = Check.village(1);
        read.read(5, 0, 0, 0);
        read.read(0, 240, 0, 0);
        Check.due("house behind refused readings", read.house(1, 1), 1);
        read.read(0, 0, 0, 0);
        Check.due("house behind a reading", read.house(1, 1), NONE);

        SunVillage text = Check.village(1);
        Check.due("a text with a fault", Check.text(text, 0, "rest ;"), 1 + 16 * 5);
        Check.due("no such quarter", Check.text(text, 240, "rest first ;"), -1);
        Check.due("house behind refused texts", text.house(1, 1), 1);
        Check.due("a text", Check.text(text, 0, "rest first ;"), 0);
        Check.due("house behind a text", text.house(1, 1), NONE);

        SunVillage other = Check.village(1);
        Check.due("an other text with a fault", Check.other(other, "rest ;"), 1 + 16 * 5);
        Check.due("house behind a refused other text", other.house(1, 1), 1);
        Check.due("an other text", Check.other(other, "rest first ;"), 0);
        Check.due("house behind an other text", other.house(1, 1), NONE);
    }
}
