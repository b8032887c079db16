/** Promise 11. */
public final class ByTest {
    private static final int NONE = SunVillage.NONE;

    public static void main(String[] args) {
        SunVillage village = Check.village(1, 1, 1);
        village.read(0, 0, 0, 100);
        village.read(1, 0, 30, 0);
        village.read(2, 0, 30, 0);
        Check.text(village, 2, "price pool 3; give 10 from pool to house 1 by heads; fill 20;"
                + "give 7 from pool to all by heads; when hour = 3 fill 5; rest first;");
        Check.text(village, 4, "fill 1; rest first;");
        int[][] due = {{0, 0, 0, NONE}, {0, 10, 0, NONE}, {0, 0, 0, 20}, {0, 4, 3, NONE}, {0, 0, 0, 0}};
        for (int i = 0; i < due.length; i++) {
            for (int h = 0; h < 4; h++) {
                int house = h == 3 ? NONE : h;
                Check.due("by(2, " + i + ", " + house + ")", village.by(2, i, house), due[i][h]);
            }
        }
        Check.due("a fill in hour 3", village.by(3, 4, NONE), 5);
        Check.due("a fill of the next text", village.by(4, 0, NONE), 1);
        Check.due("a fill gives no house", village.by(4, 0, 1), 0);
        Check.due("the next text has no rule 1", village.by(4, 1, 0), NONE);
        Check.due("ahead of the first text", village.by(1, 0, 0), NONE);
        Check.due("what was had stands behind such looks", village.had(1, 2, 3), 14);

        int[][] wrong = {{-1, 1, 1}, {240, 1, 1}, {2, -1, 1}, {2, 5, 1}, {2, 24, 1}, {2, 1, 3}, {2, 1, -2}, {2, 2, -2},
            {Integer.MIN_VALUE, 1, 1}, {Integer.MAX_VALUE, 1, 1}, {2, Integer.MIN_VALUE, 1},
            {2, Integer.MAX_VALUE, 1}, {2, 1, Integer.MIN_VALUE}, {2, 1, Integer.MAX_VALUE}};
        for (int[] w : wrong) {
            Check.due("by(" + w[0] + ", " + w[1] + ", " + w[2] + ")", village.by(w[0], w[1], w[2]), NONE);
        }

        SunVillage full = new SunVillage(30, 0);
        full.house(1, 1);
        full.read(0, 0, 0, 100);
        Check.text(full, 0, "fill 20; fill 20; fill 20; rest first;");
        int[] filled = {20, 10, 0};
        for (int i = 0; i < 3; i++) {
            Check.due("full: by(0, " + i + ", NONE)", full.by(0, i, NONE), filled[i]);
        }
        lastRule();
        belowNothing();
        Check.end("ByTest");
    }

    /** RULE 23 is the last that there can be; the rest is no RULE. */
    private static void lastRule() {
        SunVillage village = Check.village(1);
        village.read(0, 0, 0, 5000);
        StringBuilder rules = new StringBuilder();
        for (int i = 1; i <= 24; i++) {
            rules.append("fill ").append(i).append(';');
        }
        Check.due("24 rules", Check.text(village, 0, rules + "rest first;"), 0);
        for (int i = 0; i < 24; i++) {
            Check.due("by(0, " + i + ", NONE)", village.by(0, i, NONE), i + 1);
            Check.due("by(0, " + i + ", 0)", village.by(0, i, 0), 0);
        }
        Check.due("by(0, 24, NONE)", village.by(0, 24, NONE), NONE);
        Check.due("by(0, 24, 0)", village.by(0, 24, 0), NONE);
        Check.text(village, 1, "rest first;");
        Check.due("a text without rules", village.by(1, 0, 0), NONE);
        Check.due("a text without rules, NONE", village.by(1, 0, NONE), NONE);
        Check.due("its last quarter", village.by(239, 0, NONE), NONE);
    }

    /** What a RULE did not do is 0, not NONE: below 0, and where its E is 0. */
    private static void belowNothing() {
        SunVillage village = Check.village(1, 1);
        village.read(0, 0, 0, 50);
        village.read(1, 0, 50, 0);
        Check.text(village, 0, "fill 0 - 9;give 0 - 9 from pool to all by heads;when 0 fill 9;"
                + "when 0 give 9 from pool to all by heads;when 0 price buy 9;rest first;");
        int[] ofNone = {0, NONE, 0, NONE, NONE};
        for (int i = 0; i < 5; i++) {
            Check.due("by(239, " + i + ", 1)", village.by(239, i, 1), 0);
            Check.due("by(239, " + i + ", NONE)", village.by(239, i, NONE), ofNone[i]);
        }
    }
}
