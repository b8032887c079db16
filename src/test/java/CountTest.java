/** Promise 15. */
public final class CountTest {
    public static void main(String[] args) {
        SunVillage village = Check.village(1, 1);
        village.read(0, 0, 1, 1);
        village.read(0, 0, 1, 1);
        village.read(1, 0, 1, 1);
        village.days(4);
        Check.text(village, 0, "fill 1; fill 2; rest first;");
        Check.text(village, 1, "when 1 fill 1; price buy 2; fill 3; rest first;");
        village.bills();
        village.bills();
        village.bills();
        Check.feed(village, "rest  ");
        int[] due = {2, 3, 4, 2, 3, 6, 3, 0, SunVillage.NONE};
        counts(village, due);
        village.known(3);
        due[8] = 3;
        counts(village, due);
        village.other();
        due[5] = 0;
        counts(village, due);
        Check.other(village, "fill 1; rest first;");
        due[7] = 1;
        counts(village, due);
        int[] wrong = {-1, 9, Integer.MIN_VALUE, Integer.MAX_VALUE};
        for (int what : wrong) {
            Check.due("count(" + what + ")", village.count(what), SunVillage.NONE);
        }
        Check.end("CountTest");
    }

    private static void counts(SunVillage village, int[] due) {
        for (int what = 0; what < due.length; what++) {
            Check.due("count(" + what + ")", village.count(what), due[what]);
        }
    }
}
