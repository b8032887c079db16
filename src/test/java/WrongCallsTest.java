import java.util.NoSuchElementException;
import java.util.Random;

/** Whatever is called with whatever numbers: no exception but NoSuchElementException, and that only where it is due. */
public final class WrongCallsTest {
    private static final int[] ODD = {0, 1, -1, -2, -3, 2, 5, 11, 12, 13, 23, 24, 100, 101, 239, 240, 241, 399, 400, 500, 501,
        1000, 1001, 5000, 5001, 1000000, Integer.MAX_VALUE, Integer.MIN_VALUE, Integer.MAX_VALUE - 1};
    private static final String[] TEXTS = {"rest turn;", "give all from pool to all by wants;rest most;",
        "fill all;give pool-store from store to least 3 by shares;rest turn;", "fill ((((((1", "price buy 101;", ""};

    public static void main(String[] args) {
        Random chance = new Random(1);
        for (int run = 0; run < 300; run++) {
            SunVillage village = new SunVillage(odd(chance), odd(chance));
            int houses = chance.nextInt(13);
            for (int h = 0; h < houses; h++) {
                village.house(1 + chance.nextInt(1000), chance.nextInt(5001));
            }
            for (int i = 0; i < 500; i++) {
                String thrown = "";
                int kind = chance.nextInt(15);
                try {
                    call(village, kind, chance);
                } catch (NoSuchElementException e) {
                    thrown = kind >= 12 ? "" : e.toString();
                } catch (RuntimeException e) {
                    thrown = e.toString();
                }
                Check.due("run " + run + " call " + i + " of kind " + kind + " " + thrown, thrown.isEmpty(), true);
            }
        }
        Check.end("WrongCallsTest");
    }

    private static int odd(Random chance) {
        return ODD[chance.nextInt(ODD.length)];
    }

    private static void call(SunVillage village, int kind, Random chance) {
        int a = odd(chance);
        int b = odd(chance);
        int c = odd(chance);
        int d = odd(chance);
        switch (kind) {
            case 0: village.house(a, b); break;
            case 1: village.read(a, b, c, d); break;
            case 2: village.read(chance.nextInt(12), chance.nextInt(240), chance.nextInt(5001), chance.nextInt(5001)); break;
            case 3: village.days(a); break;
            case 4: village.feed(chance.nextLong(), chance.nextLong(), chance.nextLong()); break;
            case 5: village.text(a); break;
            case 6: Check.text(village, a, TEXTS[chance.nextInt(TEXTS.length)]); break;
            case 7: Check.other(village, TEXTS[chance.nextInt(TEXTS.length)]); break;
            case 8: village.known(a); break;
            case 9: village.by(a, b, c); break;
            case 10: village.would(a, b); break;
            case 11: village.count(a); village.bills(); break;
            case 12: village.had(a, b, c); break;
            case 13: village.quarter(a, b); break;
            default: village.bill(a, b); break;
        }
    }
}
