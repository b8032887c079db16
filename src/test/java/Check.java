import java.util.NoSuchElementException;

/** What all tests need: to compare an answer with the one that is due, and to put words on the TAPE. */
final class Check {
    private static int wrong = 0;
    private static int looked = 0;

    interface Call {
        long answer();
    }

    private Check() {
    }

    static void due(String call, long got, long want) {
        looked++;
        if (got != want) {
            wrong++;
            System.out.println(call + " answered " + got + ", due is " + want);
        }
    }

    static void due(String call, boolean got, boolean want) {
        due(call, got ? 1 : 0, want ? 1 : 0);
    }

    static void noSuch(String call, Call asked) {
        looked++;
        try {
            long got = asked.answer();
            wrong++;
            System.out.println(call + " answered " + got + ", due is NoSuchElementException");
        } catch (NoSuchElementException due) {
            // That is what the document asks for.
        }
    }

    /** Ends the test: exit code 1 if an answer was wrong. */
    static void end(String test) {
        System.out.println(test + ": " + looked + " answers looked at, " + wrong + " wrong");
        if (wrong != 0 || looked == 0) {
            System.exit(1);
        }
    }

    /** Feeds all signs of a text (8 in each long, the highest byte first): what the last feed() answered. */
    static int feed(SunVillage village, String signs) {
        int answer = village.count(5);
        for (int i = 0; i < signs.length(); i += 24) {
            answer = village.feed(eight(signs, i), eight(signs, i + 8), eight(signs, i + 16));
        }
        return answer;
    }

    static long eight(String signs, int from) {
        long packed = 0;
        for (int i = from; i < from + 8; i++) {
            packed = packed << 8 | (i < signs.length() ? signs.charAt(i) & 255 : 0);
        }
        return packed;
    }

    static int text(SunVillage village, int quarter, String signs) {
        feed(village, signs);
        return village.text(quarter);
    }

    static int other(SunVillage village, String signs) {
        feed(village, signs);
        return village.other();
    }

    /** A village with houses of these shares, whose lines bear 5000, without loss. */
    static SunVillage village(int... shares) {
        SunVillage village = new SunVillage(1000, 0);
        for (int share : shares) {
            village.house(share, 5000);
        }
        return village;
    }
}
