/** Promises 6 and 7: which texts are taken, and the FAULTS of the others. */
public final class TextTest {
    private static final int CANT_STAND = 1;
    private static final int NUMBER = 4;
    private static final int TOO_MANY = 5;

    public static void main(String[] args) {
        good();
        ends();
        tokens();
        everySign();
        longWords();
        blanks();
        asManyTokensAsSigns();
        numbers();
        words();
        everyTokenEverywhere();
        expressions();
        nested();
        manyRules();
        quarters();
        inForce();
        sixTexts();
        refusedChangesNothing();
        others();
        otherWithAFaultAtFirst();
        tapeIsTaken();
        faultsLeaveNothing();
        behindLooks();
        Check.end("TextTest");
    }

    /** What a village of two houses says to a text, in text() and in other(). */
    private static void fault(String signs, int want) {
        SunVillage village = Check.village(1, 1);
        Check.due("text of: " + signs, Check.text(village, 0, signs), want);
        Check.due("texts behind: " + signs, village.count(3), want == 0 ? 1 : 0);
        Check.due("signs behind: " + signs, village.count(5), 0);
        village = Check.village(1, 1);
        Check.due("other of: " + signs, Check.other(village, signs), want);
        Check.due("OTHER behind: " + signs, village.count(7), want == 0 ? 1 : 0);
        Check.due("signs behind other: " + signs, village.count(5), 0);
    }

    /** The fault is at the first | of the text, which is taken out. */
    private static void marked(String signs, int kind) {
        int place = signs.indexOf('|');
        fault(signs.substring(0, place) + signs.substring(place + 1), kind + 16 * place);
    }

    private static void good() {
        fault("rest first ;", 0);
        fault("rest most;", 0);
        fault("\n\nrest\n turn\n;\n\n", 0);
        fault("fill all ; rest first ;", 0);
        fault("price pool 0;price store 100;price buy 7;price sell 007;rest first;", 0);
        fault("give all from pool to all by heads;rest first;", 0);
        fault("give 5 from store to house 1 by wants;rest first;", 0);
        fault("give pool-1 from store to least 12 by shares;rest first;", 0);
        fault("when hour < 5 price pool 3;rest first;", 0);
        fault("when 1fill all;rest first;", 0);
        fault("give5from pool to house0by heads;rest first;", 0);
        fault("fill hour+day-pool+store-want+(1<2)=3;rest first;", 0);
        fault("when pool = 0 give 1 < 2 from pool to all by heads;rest first;", 0);
    }

    private static void ends() {
        marked("|", CANT_STAND);
        marked("  \n|", CANT_STAND);
        marked("rest|", CANT_STAND);
        marked("rest first|", CANT_STAND);
        marked("rest first   |", CANT_STAND);
        marked("fill all|", CANT_STAND);
        marked("fill all;|", CANT_STAND);
        marked("fill (1|", CANT_STAND);
        marked("price pool |", CANT_STAND);
        marked("rest first; |;", CANT_STAND);
        marked("rest first; |rest first;", CANT_STAND);
        marked("rest first; |fill all;", CANT_STAND);
        marked("rest first;\n |@", CANT_STAND);
    }

    private static void tokens() {
        marked("|restfirst;", CANT_STAND);
        marked("|resting first;", CANT_STAND);
        marked("|Rest first;", CANT_STAND);
        marked("|r", CANT_STAND);
        marked("rest |firstfirst;", CANT_STAND);
        marked("rest first|,", CANT_STAND);
        marked("fill |~;rest first;", CANT_STAND);
        marked("fill |*1;rest first;", CANT_STAND);
        marked("fill 1|.5;rest first;", CANT_STAND);
        marked("fill 1 |> 2;rest first;", CANT_STAND);
    }

    /** "All else .. is none": each sign that can be on the TAPE, right behind a WORD and right behind a NUMBER. */
    private static void everySign() {
        for (char sign = 33; sign < 127; sign++) {
            boolean letter = sign >= 'a' && sign <= 'z';
            boolean digit = sign >= '0' && sign <= '9';
            // A letter makes the WORD longer, all else ends it.
            fault("rest" + sign + " first;", 1 + 16 * (letter ? 0 : 4));
            // A digit makes the NUMBER longer; behind these the semicolon is what can't stand there.
            boolean goesOn = "+-<=;".indexOf(sign) >= 0;
            fault("fill 1" + sign + ";rest first;", digit ? 0 : 1 + 16 * (goesOn ? 7 : 6));
        }
    }

    /** "8 at most", "1 to 6 digits": none at its first sign, whatever it begins with. */
    private static void longWords() {
        marked("|abcdefgh first;", CANT_STAND);
        marked("|restrest first;", CANT_STAND);
        marked("|restrestr first;", CANT_STAND);
        marked("rest |firstfir;", CANT_STAND);
        marked("rest |firstfirs;", CANT_STAND);
        marked("fill |" + "a".repeat(1100), CANT_STAND);
        marked("fill |" + "1".repeat(1100), CANT_STAND);
        marked("fill |1234567fill;", CANT_STAND);
        marked("fill 123456|fill;", CANT_STAND);
        fault("give 123456from pool to least 000012by heads;rest first;", 0);
        marked("give 1 from pool to least |0000012 by heads;rest first;", CANT_STAND);
        marked("price buy |0000100;rest first;", CANT_STAND);
        fault("price buy 000100;rest first;", 0);
    }

    /** "blanks (10, 32) between where one likes", and none within a token. */
    private static void blanks() {
        String[] words = {"when", "(", "hour", "<", "5", ")", "=", "1", "give", "3", "from", "pool", "to", "house", "1",
            "by", "heads", ";", "rest", "turn", ";"};
        fault(String.join(" ", words), 0);
        fault(String.join("\n", words), 0);
        fault("\n " + String.join(" \n \n", words) + "\n ", 0);
        fault("when(hour<5)=1give 3from pool to house 1by heads;rest turn;", 0);
        marked("|re st first;", CANT_STAND);
        marked("|re\nst first;", CANT_STAND);
        marked("fill 1 |2;rest first;", CANT_STAND);
        marked("fill 1\n|2;rest first;", CANT_STAND);
    }

    /** As many tokens as the TAPE can have, and as many NUMBERS. */
    private static void asManyTokensAsSigns() {
        marked("|" + ";".repeat(1200), CANT_STAND);
        marked("fill |" + "+".repeat(1195), CANT_STAND);
        marked("fill 1|" + "(".repeat(1194), CANT_STAND);
        marked("rest first;|" + "1a".repeat(594) + "1", CANT_STAND);
        marked("fill " + "1-".repeat(597) + "1|", CANT_STAND);
    }

    private static void numbers() {
        fault("fill 999999;rest first;", 0);
        fault("fill 000001;rest first;", 0);
        marked("fill |1000000;rest first;", CANT_STAND);
        marked("fill |0000001;rest first;", CANT_STAND);
        marked("price pool |101;rest first;", NUMBER);
        marked("price sell |999999;rest first;", NUMBER);
        marked("price sell |1000000;rest first;", CANT_STAND);
        marked("price sell |-1;rest first;", CANT_STAND);
        marked("give 1 from pool to house |2 by heads;rest first;", NUMBER);
        marked("give 1 from pool to house |999999 by heads;rest first;", NUMBER);
        marked("give 1 from pool to house |1999999 by heads;rest first;", CANT_STAND);
        marked("give 1 from pool to least |0 by heads;rest first;", NUMBER);
        marked("give 1 from pool to least |13 by heads;rest first;", NUMBER);
        fault("give 1 from pool to least 1 by heads;rest first;", 0);
        SunVillage empty = new SunVillage(0, 0);
        Check.due("house 0 where there is none",
                Check.text(empty, 0, "give 1 from pool to house 0 by heads;rest first;"), NUMBER + 16 * 26);
        // The first one from the left counts, of whatever kind.
        marked("price pool |101;fill ?;", NUMBER);
        marked("fill |?;price pool 101;", CANT_STAND);
    }

    private static void words() {
        marked("|first;", CANT_STAND);
        marked("|all;", CANT_STAND);
        marked("|;rest first;", CANT_STAND);
        marked("fill |;rest first;", CANT_STAND);
        marked("fill |from;rest first;", CANT_STAND);
        marked("fill all |+ 1;rest first;", CANT_STAND);
        marked("fill 1 + |all;rest first;", CANT_STAND);
        marked("price |all 5;rest first;", CANT_STAND);
        marked("price |5;rest first;", CANT_STAND);
        marked("price pool |hour;rest first;", CANT_STAND);
        marked("price pool 5 |5;rest first;", CANT_STAND);
        marked("give 1 |to;rest first;", CANT_STAND);
        marked("give 1 from |buy to;rest first;", CANT_STAND);
        marked("give 1 from pool |by heads;rest first;", CANT_STAND);
        marked("give 1 from pool to |heads;rest first;", CANT_STAND);
        marked("give 1 from pool to |1;rest first;", CANT_STAND);
        marked("give 1 from pool to house |by heads;rest first;", CANT_STAND);
        marked("give 1 from pool to least |hour by heads;rest first;", CANT_STAND);
        marked("give 1 from pool to all |1 by heads;rest first;", CANT_STAND);
        marked("give 1 from pool to all by |want;rest first;", CANT_STAND);
        marked("give 1 from pool to all by heads |rest first;", CANT_STAND);
        marked("when 1 |when 1 fill all;rest first;", CANT_STAND);
        marked("when 1 |rest first;", CANT_STAND);
        marked("when |all fill all;rest first;", CANT_STAND);
        marked("when |fill all;rest first;", CANT_STAND);
        marked("rest |all;", CANT_STAND);
    }

    /** "or can't stand there": behind each beginning of a text each token, of which only some can stand there. */
    private static void everyTokenEverywhere() {
        String parts = " 1 ( hour day pool store want ";
        String joints = " + - < = ";
        canStand("", " when give fill price rest ");
        canStand("when ", parts);
        canStand("when 1 ", joints + "give fill price ");
        canStand("fill ", parts + "all ");
        canStand("fill all ", " ; ");
        canStand("fill 1 ", joints + "; ");
        canStand("fill 1 + ", parts);
        canStand("fill 1 - ", parts);
        canStand("fill 1 < ", parts);
        canStand("fill 1 = ", parts);
        canStand("fill 1 < 2 ", " + - ; ");
        canStand("fill ( ", parts);
        canStand("fill ( 1 ", joints + ") ");
        canStand("fill ( 1 = 2 ", " + - ) ");
        canStand("fill 1; ", " when give fill price rest ");
        canStand("price ", " pool store buy sell ");
        canStand("price buy ", " 1 ");
        canStand("price buy 1 ", " ; ");
        canStand("give ", parts + "all ");
        canStand("give all ", " from ");
        canStand("give 1 ", joints + "from ");
        canStand("give 1 from ", " pool store ");
        canStand("give 1 from pool ", " to ");
        canStand("give 1 from pool to ", " all house least ");
        canStand("give 1 from pool to house ", " 1 ");
        canStand("give 1 from pool to least ", " 1 ");
        canStand("give 1 from pool to all ", " by ");
        canStand("give 1 from pool to house 1 ", " by ");
        canStand("give 1 from pool to least 1 ", " by ");
        canStand("give 1 from pool to all by ", " heads wants shares ");
        canStand("give 1 from pool to all by heads ", " ; ");
        canStand("rest ", " first most turn ");
        canStand("rest first ", " ; ");
        canStand("rest first ; ", " ");
    }

    private static void canStand(String ahead, String those) {
        String[] all = {"1", "(", ")", "<", "=", "+", "-", ";", "when", "give", "fill", "price", "rest", "from", "to", "by",
            "all", "house", "least", "heads", "wants", "shares", "pool", "store", "buy", "sell", "hour", "day", "want",
            "first", "most", "turn", "x", "A"};
        for (String token : all) {
            // What can stand there leaves the fault to the ? behind it.
            boolean can = those.contains(" " + token + " ");
            int place = ahead.length() + (can ? token.length() + 1 : 0);
            fault(ahead + token + " ?", CANT_STAND + 16 * place);
        }
    }

    private static void expressions() {
        marked("fill 1 < 2 |< 3;rest first;", CANT_STAND);
        marked("fill 1 = 2 |< 3;rest first;", CANT_STAND);
        marked("fill 1 < 2 + 3 |= 3;rest first;", CANT_STAND);
        marked("fill 1 + |< 2;rest first;", CANT_STAND);
        marked("fill |- 2;rest first;", CANT_STAND);
        marked("fill 1 - |- 2;rest first;", CANT_STAND);
        marked("fill 1 |2;rest first;", CANT_STAND);
        marked("fill |= 2;rest first;", CANT_STAND);
        marked("fill (|);rest first;", CANT_STAND);
        marked("fill (1|;rest first;", CANT_STAND);
        marked("fill 1|);rest first;", CANT_STAND);
        marked("fill (1 < 2|< 3);rest first;", CANT_STAND);
        fault("fill (1 < 2) < 3;rest first;", 0);
        fault("fill 1 < (2 < 3);rest first;", 0);
        fault("fill (1)+(2)-(3)=(4)+(5);rest first;", 0);
    }

    private static void nested() {
        fault("fill (((((1)))));rest first;", 0);
        fault("fill (((((1)+1)+1)+1)+1)+(((((1)))));rest first;", 0);
        fault("fill 1-(2-(3-(4-(5-(6<7)<8)<9)<10)<11)<12;rest first;", 0);
        marked("fill ((((((|1))))));rest first;", TOO_MANY);
        marked("fill ((((((|hour))))));rest first;", TOO_MANY);
        marked("fill ((((((|(1)))))));rest first;", TOO_MANY);
        marked("fill 1+(2+(3+(4+(5+(6+(|7))))));rest first;", TOO_MANY);
        marked("fill ((((((|);rest first;", CANT_STAND);
        marked("fill ((((((|all;rest first;", CANT_STAND);
        marked("fill ((((((|1000000;rest first;", CANT_STAND);
        marked("fill ((((((|", CANT_STAND);
        marked("fill ((((((|?1", CANT_STAND);
        marked("when ((((((|1)))))) fill all;rest first;", TOO_MANY);
        fault("when (((((1))))) fill (((((1)))));rest first;", 0);
    }

    private static void manyRules() {
        String most = "fill 1;".repeat(24);
        fault(most + "rest first;", 0);
        marked(most + "|fill 1;rest first;", TOO_MANY);
        marked(most + " |give;", TOO_MANY);
        marked(most + " |price?", TOO_MANY);
        marked(most + "\n|when 1 fill 1;rest first;", TOO_MANY);
        marked(most + "|all", CANT_STAND);
        marked(most + "|?", CANT_STAND);
        marked(most + "|", CANT_STAND);
        SunVillage village = Check.village(1);
        Check.text(village, 0, most + "rest first;");
        Check.due("count(6)", village.count(6), 24);
        String longest = "fill  " + "1+".repeat(591) + "1;rest turn;";
        Check.due("the longest text", longest.length(), 1200);
        fault(longest, 0);
        village = Check.village(1);
        village.read(0, 0, 0, 5000);
        Check.text(village, 0, longest);
        Check.due("its amount", village.quarter(0, 2), 592);
    }

    private static void quarters() {
        SunVillage village = Check.village(1);
        int[] none = {-1, 240, Integer.MIN_VALUE, Integer.MAX_VALUE};
        for (int quarter : none) {
            Check.due("text(" + quarter + ")", Check.text(village, quarter, "rest first;"), -1);
            Check.due("signs behind it", village.count(5), 0);
        }
        Check.due("no such quarter, and a fault", Check.text(village, 240, "rest ?"), -1);
        Check.due("text(7)", Check.text(village, 7, "rest first;"), 0);
        Check.due("text(7) again", Check.text(village, 7, "rest first;"), -1);
        Check.due("signs behind it", village.count(5), 0);
        Check.due("text(6)", Check.text(village, 6, "rest first;"), -1);
        Check.due("text(8) with a fault", Check.text(village, 8, "rest ;"), 1 + 16 * 5);
        Check.due("text(8)", Check.text(village, 8, "rest first;"), 0);
        Check.due("text(239)", Check.text(village, 239, "rest first;"), 0);
        Check.due("count(3)", village.count(3), 3);
    }

    /** "is in force from a quarter on, up to that from which the next one known is; ahead of the first nothing". */
    private static void inForce() {
        SunVillage village = Check.village(1);
        village.read(0, 0, 0, 100);
        Check.text(village, 3, "fill 1;rest first;");
        Check.text(village, 7, "fill 2;rest first;");
        Check.text(village, 8, "fill 3;rest first;");
        Check.text(village, 239, "fill 4;rest first;");
        int[][] due = {{0, -1}, {2, -1}, {3, 1}, {6, 1}, {7, 2}, {8, 3}, {24, 3}, {238, 3}, {239, 4}};
        for (int[] d : due) {
            Check.due("by(" + d[0] + ", 0, NONE)", village.by(d[0], 0, SunVillage.NONE), d[1]);
            Check.due("quarter(" + d[0] + ", 2)", village.quarter(d[0], 2), Math.max(0, d[1]));
        }
    }

    private static void sixTexts() {
        SunVillage village = Check.village(1);
        for (int i = 0; i < 6; i++) {
            Check.due("text " + i, Check.text(village, 2 * i, "fill 1;".repeat(i) + "rest first;"), 0);
            Check.due("count(6)", village.count(6), i);
        }
        Check.due("a 7th text", Check.text(village, 100, "rest first;"), -1);
        Check.due("signs behind it", village.count(5), 0);
        Check.due("count(3)", village.count(3), 6);
        Check.due("an other text", Check.other(village, "rest first;"), 0);
    }

    /** -1 for a quarter that is not above the latest, or for a 7th text: all stays as it was. */
    private static void refusedChangesNothing() {
        SunVillage village = Check.village(1);
        village.read(0, 0, 0, 100);
        for (int i = 0; i < 6; i++) {
            Check.text(village, 10 * i, "fill 1;price buy 2;rest first;");
            Check.due("not above the latest", Check.text(village, 10 * i, "fill 5;rest first;"), -1);
            Check.due("not above the latest", Check.text(village, 0, "fill 5;rest first;"), -1);
            Check.due("count(3)", village.count(3), i + 1);
        }
        Check.due("a 7th", Check.text(village, 239, "fill 5;rest first;"), -1);
        Check.due("a 7th with a fault", Check.text(village, 239, "fill ;"), -1);
        Check.due("signs behind it", village.count(5), 0);
        Check.due("count(6)", village.count(6), 2);
        for (int q = 0; q < 240; q++) {
            Check.due("filled in quarter " + q, village.quarter(q, 2), 1);
        }
    }

    private static void otherWithAFaultAtFirst() {
        SunVillage village = Check.village(1);
        Check.due("other with a fault", Check.other(village, "fill all;"), 1 + 16 * 9);
        Check.due("count(7)", village.count(7), 0);
        Check.due("would(0, 0)", village.would(0, 0), SunVillage.NONE);
        Check.due("an other text", Check.other(village, "fill all;rest first;"), 0);
        Check.due("would(0, 0) now", village.would(0, 0), 0);
    }

    private static void others() {
        SunVillage village = Check.village(1, 1);
        village.read(0, 0, 0, 50);
        village.read(1, 0, 50, 0);
        Check.due("other", Check.other(village, "give 10 from pool to all by heads;rest first;"), 0);
        Check.due("would(1, 0)", village.would(1, 0), 10);
        Check.due("other with a fault", Check.other(village, "give 20 from pool to all by heads;"), 1 + 16 * 34);
        Check.due("would(1, 0) as it was", village.would(1, 0), 10);
        Check.due("would(1, 5) as it was", village.would(1, 5), 10);
        Check.due("another other", Check.other(village, "give 30 from pool to all by heads;rest first;"), 0);
        Check.due("would(1, 0) now", village.would(1, 0), 30);
        Check.due("one more other", Check.other(village, "rest first;"), 0);
        Check.due("would(1, 0) at last", village.would(1, 0), 0);
        Check.due("count(7)", village.count(7), 1);
        Check.due("count(3)", village.count(3), 0);
    }

    private static void tapeIsTaken() {
        SunVillage village = Check.village(1);
        Check.feed(village, "rest ");
        Check.due("half a text", village.text(0), 1 + 16 * 5);
        Check.feed(village, "first;");
        Check.due("the other half alone", village.text(0), 1);
        Check.due("nothing", village.other(), 1);
    }

    /** Many texts with a FAULT, each full of PARTS, and then one without. */
    private static void faultsLeaveNothing() {
        SunVillage village = Check.village(1);
        village.read(0, 0, 0, 100);
        Check.text(village, 0, "fill 3; rest first;");
        for (int i = 0; i < 5; i++) {
            Check.due("fault", Check.text(village, 1, "fill 9; fill " + "1+".repeat(450) + ";"), 1 + 16 * 913);
        }
        Check.due("count(6)", village.count(6), 1);
        Check.due("filled as before", village.quarter(1, 2), 3);
        Check.due("text", Check.text(village, 2, "fill 4 + 5; fill 1 + 1; rest first;"), 0);
        Check.due("filled", village.quarter(2, 2), 11);
        Check.due("filled ahead", village.quarter(1, 2), 3);
    }

    /** A text that comes when quarters that it is for were looked at already. */
    private static void behindLooks() {
        SunVillage village = Check.village(1);
        village.read(0, 0, 0, 100);
        Check.due("filled without a text", village.quarter(9, 4), 0);
        Check.text(village, 5, "fill 3; rest first;");
        Check.due("filled with a text", village.quarter(9, 4), 15);
        Check.text(village, 8, "fill 4; rest first;");
        Check.due("filled with two texts", village.quarter(9, 4), 17);
        Check.due("filled ahead of the second", village.quarter(7, 4), 9);
    }
}
