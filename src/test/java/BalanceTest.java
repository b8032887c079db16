import java.util.Random;

/** "every spark and coin is added up twice": what comes in goes out again, and "all three come to 0". */
public final class BalanceTest {
    private static final String[] TEXTS = {
        "price pool 3;price store 5;price buy 9;price sell 2;fill pool - 40;give all from pool to all by wants;rest most;",
        "give 30 from pool to least 2 by shares;when store < 50 fill all;give store - 9 from store to all by heads;rest turn;",
        "when hour < 6 price buy 100;when hour = 6 price buy 0;fill 25;give all from store to house 0 by wants;"
                + "give 11 from pool to all by shares;price pool 100;rest first;"};

    public static void main(String[] args) {
        for (int run = 0; run < 12; run++) {
            balance(run);
        }
        Check.end("BalanceTest");
    }

    /** Each quarter is looked at in a new village of the same kind: an object is used for 512 calls at most. */
    private static void balance(int run) {
        int houses = 1 + run;
        int[] comesTo = new int[14];
        int store = 0;
        for (int q = 0; q < 48; q++) {
            SunVillage village = village(run, houses);
            store = sparks(village, q, houses, store);
            coins(village, q, houses, comesTo);
        }
        SunVillage village = village(run, houses);
        village.bills();
        village.bills();
        for (int who = -2; who < houses; who++) {
            Check.due("two bills of " + who, village.bill(0, who) + village.bill(1, who), comesTo[who + 2]);
        }
    }

    private static SunVillage village(int run, int houses) {
        Random chance = new Random(run);
        SunVillage village = new SunVillage(100 + 50 * run, 40 * run);
        for (int h = 0; h < houses; h++) {
            village.house(1 + chance.nextInt(9), chance.nextInt(120));
        }
        for (int i = 0; i < TEXTS.length; i++) {
            Check.due("text", Check.text(village, 20 * i, TEXTS[(i + run) % TEXTS.length]), 0);
        }
        for (int i = 0; i < 150; i++) {
            village.read(chance.nextInt(houses), chance.nextInt(72), chance.nextInt(150), chance.nextInt(120));
        }
        return village;
    }

    /** What the STORE has behind the quarter. */
    private static int sparks(SunVillage village, int q, int houses, int storeAhead) {
        int[] sums = new int[7];
        for (int h = 0; h < houses; h++) {
            int parts = 0;
            for (int what = 0; what < 7; what++) {
                int had = village.had(h, q, what);
                sums[what] += had;
                parts += what >= 2 ? had : 0;
                Check.due("not below 0", had >= 0, true);
            }
            Check.due("WANTS of house " + h + " in " + q, parts, village.had(h, q, 0));
        }
        int pool = village.quarter(q, 0);
        Check.due("gifts in " + q, pool, sums[1] - sums[2]);
        Check.due("had of the POOL in " + q, village.quarter(q, 1), sums[3]);
        Check.due("the POOL in " + q, village.quarter(q, 1) + village.quarter(q, 2) + village.quarter(q, 3), pool);
        Check.due("bought in " + q, village.quarter(q, 6), sums[5]);
        Check.due("DARK in " + q, village.quarter(q, 7), sums[6]);
        Check.due("the STORE in " + q, storeAhead + village.quarter(q, 2) - sums[4],
                village.quarter(q, 4) + village.quarter(q, 5));
        return village.quarter(q, 4);
    }

    private static void coins(SunVillage village, int q, int houses, int[] comesTo) {
        int all = village.quarter(q, 8) + village.quarter(q, 9);
        comesTo[0] += village.quarter(q, 9);
        comesTo[1] += village.quarter(q, 8);
        for (int h = 0; h < houses; h++) {
            all += village.had(h, q, 8);
            comesTo[h + 2] += village.had(h, q, 8);
        }
        Check.due("coins in " + q, all, 0);
        Check.due("the town's in " + q, village.quarter(q, 8),
                village.quarter(q, 3) * village.quarter(q, 13) - village.quarter(q, 6) * village.quarter(q, 12));
    }
}
