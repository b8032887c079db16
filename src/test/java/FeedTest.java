/** Promise 5. */
public final class FeedTest {
    public static void main(String[] args) {
        order();
        leftOut();
        full();
        lastSign();
        Check.end("FeedTest");
    }

    /** The place of the FAULT tells where a sign came to stand. */
    private static void order() {
        SunVillage village = new SunVillage(0, 0);
        Check.due("feed", village.feed(Check.eight("rest fir", 0), Check.eight("st     ", 0), Check.eight("   ; ?  ", 0)), 23);
        Check.due("text", village.text(0), 1 + 16 * 20);
        Check.due("count(5)", village.count(5), 0);
        village.feed(Check.eight("rest fir", 0), Check.eight("st;", 0), 0);
        Check.due("text", village.text(0), 0);
    }

    private static void leftOut() {
        SunVillage village = new SunVillage(0, 0);
        Check.due("feed(0, 0, 0)", village.feed(0, 0, 0), 0);
        Check.due("feed(-1, -1, -1)", village.feed(-1, -1, -1), 0);
        Check.due("9, 10, 11, 31, 32, 126, 127, 128", village.feed(0x090a0b1f207e7f80L, 0, 0), 3);
        Check.due("13, 255, 138 and a to e", village.feed(0, 0, 0x0dff8a6162636465L), 8);
        village.other();
        village.feed(0x72ff65007374090aL, 0x6669727374200a3bL, 0);
        Check.due("rest, 10, first, 32, 10, semicolon", village.count(5), 13);
        Check.due("text", village.text(0), 0);
    }

    /** "what is beyond 1,200": the 1,200th sign is there, the one behind it is not, whatever is left out between. */
    private static void lastSign() {
        SunVillage village = new SunVillage(0, 0);
        Check.due("1199 blanks", Check.feed(village, " ".repeat(1199)), 1199);
        Check.due("none of these is a sign", village.feed(0, -1, 0x0102030405060708L), 1199);
        Check.due("the last one, and one more", village.feed(0, 0x0900ff000000003fL, 0x2100000000000000L), 1200);
        Check.due("its fault", village.text(0), 1 + 16 * 1199);
        Check.due("count(5)", village.count(5), 0);
    }

    private static void full() {
        SunVillage village = new SunVillage(0, 0);
        long blanks = 0x2020202020202020L;
        for (int i = 1; i <= 49; i++) {
            Check.due("feed " + i, village.feed(blanks, blanks, blanks), 24 * i);
        }
        Check.due("15 more", village.feed(blanks, 0x2020202020202000L, 0), 1191);
        Check.due("more than there is room for", village.feed(Check.eight("rest fir", 0), Check.eight("st;", 0), 0), 1200);
        Check.due("still full", village.feed(blanks, blanks, blanks), 1200);
        Check.due("text", village.text(0), 1 + 16 * 1196);
        Check.due("count(5)", village.count(5), 0);
        Check.due("feed again", village.feed(blanks, 0, 0), 8);
    }
}
