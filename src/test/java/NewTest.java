/** Promise 1. */
public final class NewTest {
    public static void main(String[] args) {
        SunVillage fresh = new SunVillage(10, 10);
        int[] counts = {0, 0, 0, 0, 0, 0, 0, 0, SunVillage.NONE};
        for (int what = 0; what < counts.length; what++) {
            Check.due("new: count(" + what + ")", fresh.count(what), counts[what]);
        }
        Check.due("new: quarter(239, 4)", fresh.quarter(239, 4), 0);
        Check.noSuch("new: had(0, 0, 0)", () -> fresh.had(0, 0, 0));

        capIs(0, 0);
        capIs(1, 1);
        capIs(1000000, 1000000);
        capIs(-1, 1000);
        capIs(1000001, 1000);
        capIs(Integer.MIN_VALUE, 1000);
        capIs(Integer.MAX_VALUE, 1000);

        lossIs(0, 0);
        lossIs(1, 3);
        lossIs(500, 1999);
        lossIs(501, 0);
        lossIs(-1, 0);
        lossIs(Integer.MIN_VALUE, 0);
        lossIs(Integer.MAX_VALUE, 0);
        bothWrong();
        Check.end("NewTest");
    }

    /** Twelve roofs give 60000 in a quarter: 17 quarters are enough for the largest STORE. */
    private static void capIs(int cap, int want) {
        SunVillage village = new SunVillage(cap, 0);
        for (int h = 0; h < 12; h++) {
            village.house(1, 0);
        }
        Check.text(village, 0, "fill all ; rest first ;");
        for (int h = 0; h < 12; h++) {
            village.read(h, 0, 0, 5000);
        }
        Check.due("cap " + cap + ": quarter(17, 4)", village.quarter(17, 4), want);
    }

    /** A wrong CAP leaves the LOSS alone, and the other way round. */
    private static void bothWrong() {
        int[][] due = {{-1, 500, 1000, 500}, {2000, 501, 2000, 0}, {1000001, -1, 1000, 0}};
        for (int[] d : due) {
            SunVillage village = new SunVillage(d[0], d[1]);
            village.house(1, 0);
            Check.text(village, 0, "fill all ; rest first ;");
            village.read(0, 0, 0, 5000);
            Check.due("SunVillage(" + d[0] + ", " + d[1] + "): filled", village.quarter(0, 2), d[2]);
            Check.due("SunVillage(" + d[0] + ", " + d[1] + "): lost", village.quarter(0, 5), d[3]);
        }
    }

    private static void lossIs(int loss, int want) {
        SunVillage village = new SunVillage(1000000, loss);
        village.house(1, 0);
        Check.text(village, 0, "fill 3999 ; rest first ;");
        village.read(0, 0, 0, 5000);
        Check.due("loss " + loss + ": quarter(0, 5)", village.quarter(0, 5), want);
        Check.due("loss " + loss + ": quarter(0, 4)", village.quarter(0, 4), 3999 - want);
    }
}
