/** Promise 4. */
public final class DaysTest {
    public static void main(String[] args) {
        SunVillage village = new SunVillage(0, 0);
        Check.due("days(0)", village.days(0), 0);
        Check.due("days(100)", village.days(100), 100);
        Check.due("days(1)", village.days(1), 101);
        int[] wrong = {-1, 101, Integer.MIN_VALUE, Integer.MAX_VALUE};
        for (int n : wrong) {
            Check.due("days(" + n + ")", village.days(n), SunVillage.NONE);
        }
        Check.due("count(2)", village.count(2), 101);
        for (int i = 1; i <= 500; i++) {
            Check.due("days(100)", village.days(100), 101 + 100 * i);
        }
        Check.end("DaysTest");
    }
}
