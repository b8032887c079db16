/** The example of README.md answers what is written there. */
public final class ExampleTest {
    public static void main(String[] args) {
        SunVillage village = new SunVillage(1000, 100);
        int roof = village.house(1, 5000);
        int guest = village.house(1, 5000);
        put(village, "price pool 2; give all from pool to all by heads; fill all; rest first;");
        Check.due("text(0)", village.text(0), 0);
        Check.due("a reading", village.read(roof, 0, 10, 100), true);
        Check.due("a reading", village.read(guest, 0, 30, 0), true);
        Check.due("from the pool", village.had(guest, 0, 3), 30);
        Check.due("in the store", village.quarter(0, 4), 54);
        Check.due("lost", village.quarter(0, 5), 6);
        int day = village.bills();
        Check.due("the day of the bills", day, 0);
        Check.due("the guest's bill", village.bill(day, guest), 1440);
        Check.due("a day later", village.days(1), 1);
        Check.due("a reading put right", village.read(guest, 0, 20, 0), true);
        Check.due("the next bill", village.bill(village.bills(), guest), 480);
        Check.due("the bill that is out", village.bill(day, guest), 1440);
        Check.due("as known now", village.had(guest, 0, 3), 20);
        Check.due("known(0)", village.known(0), true);
        Check.due("as known on day 0", village.had(guest, 0, 3), 30);
        Check.end("ExampleTest");
    }

    // As README.md has it, for those who have no Check.
    private static void put(SunVillage village, String signs) {
        for (int i = 0; i < signs.length(); i += 24) {
            village.feed(eight(signs, i), eight(signs, i + 8), eight(signs, i + 16));
        }
    }

    private static long eight(String signs, int from) {
        long packed = 0;
        for (int i = from; i < from + 8; i++) {
            packed = packed << 8 | (i < signs.length() ? signs.charAt(i) : 0);
        }
        return packed;
    }
}
