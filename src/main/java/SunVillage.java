import java.util.NoSuchElementException;

/**
 * A village that shares the sun of its roofs and one store by rules that it wrote itself.
 *
 * <p>Nothing that follows from READINGS and texts is kept but in a Book, and a Book only ever works
 * anew the quarters from the first one on that something new touches.
 */
public final class SunVillage {
    public static final int NONE = -1;

    private static final int MOST_HOUSES = 12;
    private static final int MOST_SHARE = 1000;
    private static final int MOST_IN_A_QUARTER = 5000;
    private static final int MOST_CAP = 1000000;
    private static final int USUAL_CAP = 1000;
    private static final int MOST_LOSS = 500;
    private static final int QUARTERS = 240;
    private static final int QUARTERS_A_DAY = 24;
    private static final int BILL_DAYS = 10;
    private static final int MOST_DAYS_AT_ONCE = 100;
    private static final int MOST_READINGS = 400;
    private static final int MOST_TEXTS = 6;
    private static final int MOST_SIGNS = 1200;
    private static final int MOST_RULES = 24;
    private static final int MOST_DIGITS = 6;
    private static final int MOST_PRICE = 100;
    private static final int MOST_PARTS_AROUND = 5;

    // What is kept of a quarter, by the numbers that quarter() gives it.
    private static final int POOL_AT_FIRST = 0;
    private static final int HAD_OF_POOL = 1;
    private static final int FILLED = 2;
    private static final int TOWN_BOUGHT = 3;
    private static final int STORE_BEHIND = 4;
    private static final int LOST = 5;
    private static final int HOUSES_BOUGHT = 6;
    private static final int DARK = 7;
    private static final int TOWN_COINS = 8;
    private static final int POT_COINS = 9;
    private static final int POOL_PRICE = 10;
    private static final int STORE_PRICE = 11;
    private static final int BUY_PRICE = 12;
    private static final int SELL_PRICE = 13;
    private static final int SUMS = 14;

    private static final int TOWN = -1;
    private static final int POT = -2;

    private final Houses houses;
    private final Readings readings;
    private final Tape tape;
    private final Reader reader;
    private final Work work;
    private final Texts texts;
    private final Book book;
    private final Bills bills;
    /** The OTHER text, as if it were the only one. */
    private final Texts alone;
    /** Null as long as there is no OTHER text. */
    private Book otherBook;
    /** What the TAPE is read into: only a text without a FAULT leaves it. */
    private Text draft;
    private int now;
    private int lookDay;

    public SunVillage(int cap, int loss) {
        houses = new Houses();
        readings = new Readings();
        tape = new Tape();
        reader = new Reader();
        work = new Work(houses, isIn(cap, 0, MOST_CAP) ? cap : USUAL_CAP, isIn(loss, 0, MOST_LOSS) ? loss : 0);
        texts = new Texts();
        book = new Book(houses, readings, texts, work);
        bills = new Bills();
        alone = new Texts();
        draft = new Text();
        lookDay = NONE;
    }

    public int house(int share, int bears) {
        boolean settled = readings.size > 0 || texts.size > 0 || alone.size > 0;
        boolean fits = isIn(share, 1, MOST_SHARE) && isIn(bears, 0, MOST_IN_A_QUARTER);
        if (settled || !fits || houses.size >= MOST_HOUSES) {
            return NONE;
        }
        return houses.add(share, bears);
    }

    public boolean read(int house, int quarter, int wants, int gives) {
        boolean there = houses.has(house) && isQuarter(quarter);
        boolean fits = isIn(wants, 0, MOST_IN_A_QUARTER) && isIn(gives, 0, MOST_IN_A_QUARTER);
        if (!there || !fits || readings.size >= MOST_READINGS) {
            return false;
        }
        readings.add(house, quarter, wants, gives, now);
        book.forgetFrom(quarter);
        if (otherBook != null) {
            otherBook.forgetFrom(quarter);
        }
        return true;
    }

    public int days(int n) {
        if (!isIn(n, 0, MOST_DAYS_AT_ONCE)) {
            return NONE;
        }
        now += n;
        return now;
    }

    public int feed(long a, long b, long c) {
        tape.addBytes(a);
        tape.addBytes(b);
        tape.addBytes(c);
        return tape.size;
    }

    public int text(int quarter) {
        if (!isQuarter(quarter) || !texts.canTake(quarter)) {
            tape.size = 0;
            return NONE;
        }
        int fault = reader.parse(tape, houses.size, draft);
        if (fault == 0) {
            texts.add(draft, quarter, now);
            draft = new Text();
            book.forgetFrom(quarter);
        }
        return fault;
    }

    public int other() {
        int fault = reader.parse(tape, houses.size, draft);
        if (fault == 0) {
            Text before = alone.putOnly(draft);
            draft = before == null ? new Text() : before;
            if (otherBook == null) {
                otherBook = new Book(houses, readings, alone, work);
            }
            otherBook.forgetFrom(0);
        }
        return fault;
    }

    public boolean known(int day) {
        if (day != NONE && !isIn(day, 0, now)) {
            return false;
        }
        lookDay = day;
        return true;
    }

    public int had(int house, int quarter, int what) throws NoSuchElementException {
        if (!houses.has(house) || !isQuarter(quarter) || !isIn(what, 0, 8)) {
            throw new NoSuchElementException();
        }
        book.workTo(quarter, dayOfLooks());
        return book.ofHouse(house, quarter, what);
    }

    public int quarter(int quarter, int what) throws NoSuchElementException {
        if (!isQuarter(quarter) || !isIn(what, 0, SUMS - 1)) {
            throw new NoSuchElementException();
        }
        book.workTo(quarter, dayOfLooks());
        return book.sum(quarter, what);
    }

    public int by(int quarter, int i, int house) {
        if (!isQuarter(quarter) || (house != NONE && !houses.has(house))) {
            return NONE;
        }
        Text text = texts.inForce(quarter, dayOfLooks());
        if (text == null || !isIn(i, 0, text.size - 1)) {
            return NONE;
        }
        if (house == NONE && text.rules[i].act != Token.FILL) {
            return NONE;
        }
        book.workTo(quarter, dayOfLooks());
        book.workAgain(quarter, i);
        return house == NONE ? work.watchedFilled : work.watchedGave[house];
    }

    public int would(int house, int quarter) {
        if (otherBook == null || !houses.has(house) || !isQuarter(quarter)) {
            return NONE;
        }
        otherBook.workTo(quarter, dayOfLooks());
        return otherBook.byRules(house, quarter);
    }

    public int bills() {
        int day = bills.days;
        if (day >= BILL_DAYS) {
            return NONE;
        }
        int end = (day + 1) * QUARTERS_A_DAY;
        book.workTo(end - 1, now);
        for (int who = POT; who < houses.size; who++) {
            bills.write(who, book.coinsUpTo(who, end));
        }
        bills.days++;
        return day;
    }

    public int bill(int day, int house) throws NoSuchElementException {
        if (!isIn(day, 0, bills.days - 1) || !isIn(house, POT, houses.size - 1)) {
            throw new NoSuchElementException();
        }
        return bills.coins[Bills.slot(day, house)];
    }

    public int count(int what) {
        switch (what) {
            case 0: return houses.size;
            case 1: return readings.size;
            case 2: return now;
            case 3: return texts.size;
            case 4: return bills.days;
            case 5: return tape.size;
            case 6: return texts.rulesOfLatest();
            case 7: return alone.size;
            case 8: return lookDay;
            default: return NONE;
        }
    }

    private int dayOfLooks() {
        return lookDay == NONE ? now : lookDay;
    }

    private static boolean isIn(int n, int least, int most) {
        return n >= least && n <= most;
    }

    private static boolean isQuarter(int quarter) {
        return isIn(quarter, 0, QUARTERS - 1);
    }

    private static final class Houses {
        private final int[] share = new int[MOST_HOUSES];
        private final int[] bears = new int[MOST_HOUSES];
        private int size;

        boolean has(int house) {
            return isIn(house, 0, size - 1);
        }

        int add(int itsShare, int itsLine) {
            share[size] = itsShare;
            bears[size] = itsLine;
            size++;
            return size - 1;
        }
    }

    /** All READINGS in the order in which they came. */
    private static final class Readings {
        private final int[] house = new int[MOST_READINGS];
        private final int[] quarter = new int[MOST_READINGS];
        private final int[] wants = new int[MOST_READINGS];
        private final int[] gives = new int[MOST_READINGS];
        private final int[] day = new int[MOST_READINGS];
        private int size;

        void add(int itsHouse, int itsQuarter, int itsWants, int itsGives, int itsDay) {
            house[size] = itsHouse;
            quarter[size] = itsQuarter;
            wants[size] = itsWants;
            gives[size] = itsGives;
            day[size] = itsDay;
            size++;
        }

        /** The least quarter of a READING that came behind one day and up to another; QUARTERS without any. */
        int firstTouched(int behind, int upTo) {
            int first = QUARTERS;
            for (int r = 0; r < size; r++) {
                if (day[r] > behind && day[r] <= upTo) {
                    first = Math.min(first, quarter[r]);
                }
            }
            return first;
        }
    }

    private static final class Tape {
        private static final int BLANK = 0;
        private static final int LETTER = 1;
        private static final int DIGIT = 2;
        private static final int SINGLE = 3;

        private final char[] signs = new char[MOST_SIGNS];
        private int size;

        void addBytes(long eight) {
            for (int shift = 56; shift >= 0; shift -= 8) {
                int sign = (int) (eight >>> shift) & 255;
                if ((sign == 10 || isIn(sign, 32, 126)) && size < MOST_SIGNS) {
                    signs[size] = (char) sign;
                    size++;
                }
            }
        }

        int sort(int place) {
            char sign = signs[place];
            if (sign == 10 || sign == ' ') {
                return BLANK;
            }
            if (sign >= 'a' && sign <= 'z') {
                return LETTER;
            }
            return sign >= '0' && sign <= '9' ? DIGIT : SINGLE;
        }

        boolean tokenBegins(int place) {
            int sort = sort(place);
            if (sort == BLANK) {
                return false;
            }
            return sort == SINGLE || place == 0 || sort(place - 1) != sort;
        }

        int tokenEnd(int place) {
            int sort = sort(place);
            int end = place + 1;
            while (sort != SINGLE && end < size && sort(end) == sort) {
                end++;
            }
            return end;
        }

        /** Of digits that are MOST_DIGITS at most. */
        int numberAt(int from, int to) {
            int number = 0;
            for (int i = from; i < to; i++) {
                number = number * 10 + (signs[i] - '0');
            }
            return number;
        }
    }

    /** All that can stand on a TAPE; code: what it is in an E's code (0: it has no place in one). */
    private enum Token {
        NOTHING("", 0), END("", 0), NUMBER("", 0),
        OPEN("(", 0), CLOSE(")", 0), SEMICOLON(";", 0),
        HOUR("hour", -1), DAY("day", -2), POOL("pool", -3), STORE("store", -4), WANT("want", -5),
        PLUS("+", -6), MINUS("-", -7), LESS("<", -8), EQUAL("=", -9),
        WHEN("when", 0), GIVE("give", 0), FILL("fill", 0), PRICE("price", 0), REST("rest", 0),
        FROM("from", 0), TO("to", 0), BY("by", 0),
        ALL("all", 0), HOUSE("house", 0), LEAST("least", 0),
        HEADS("heads", 0), WANTS("wants", 0), SHARES("shares", 0),
        BUY("buy", 0), SELL("sell", 0),
        FIRST("first", 0), MOST("most", 0), TURN("turn", 0);

        private static final Token[] EACH = values();

        private final String spelling;
        private final int code;

        Token(String spelling, int code) {
            this.spelling = spelling;
            this.code = code;
        }

        /** A word that is too long for a WORD is none of these either. */
        static Token spelled(Tape tape, int from, int to) {
            for (int i = 0; i < EACH.length; i++) {
                if (EACH[i].isSpelled(tape, from, to)) {
                    return EACH[i];
                }
            }
            return NOTHING;
        }

        private boolean isSpelled(Tape tape, int from, int to) {
            if (spelling.length() != to - from) {
                return false;
            }
            for (int i = 0; i < spelling.length(); i++) {
                if (spelling.charAt(i) != tape.signs[from + i]) {
                    return false;
                }
            }
            return true;
        }

        boolean isOperator() {
            return code <= PLUS.code;
        }

        boolean isCompare() {
            return this == LESS || this == EQUAL;
        }

        boolean beginsPart() {
            return this == NUMBER || this == OPEN || (code < 0 && !isOperator());
        }

        boolean beginsRule() {
            return this == WHEN || this == GIVE || this == FILL || this == PRICE;
        }

        /** The price that this is the KIND of, NONE: it is no KIND. */
        int price() {
            if (this == POOL) {
                return POOL_PRICE;
            }
            if (this == STORE) {
                return STORE_PRICE;
            }
            if (this == BUY) {
                return BUY_PRICE;
            }
            return this == SELL ? SELL_PRICE : NONE;
        }
    }

    /** The E's of a RULE are stretches of its text's code; an empty one is no E: always, all. */
    private static final class Rule {
        private Token act;
        private int whenFrom;
        private int whenTo;
        private int amountFrom;
        private int amountTo;
        private Token source;
        private Token whom;
        private Token way;
        private int price;
        /** N of a price, a house, least. */
        private int number;
    }

    private static final class Text {
        private final Rule[] rules = new Rule[MOST_RULES];
        private int size;
        private Token rest;
        /** E's with each sign behind its two sides: NUMBERS as they are, all else below 0. */
        private final int[] code = new int[MOST_SIGNS];
        private int codeSize;
        private int quarter;
        private int day;

        Text() {
            for (int i = 0; i < MOST_RULES; i++) {
                rules[i] = new Rule();
            }
        }

        void emit(int item) {
            if (codeSize < MOST_SIGNS) {
                code[codeSize] = item;
                codeSize++;
            }
        }
    }

    /** Texts by their quarters, which is the order in which they came, too. */
    private static final class Texts {
        private final Text[] items = new Text[MOST_TEXTS];
        private int size;

        boolean canTake(int quarter) {
            return size < MOST_TEXTS && (size == 0 || quarter > items[size - 1].quarter);
        }

        void add(Text text, int quarter, int day) {
            text.quarter = quarter;
            text.day = day;
            items[size] = text;
            size++;
        }

        /** This one from quarter 0 on, known at any time; the one that was there, or null. */
        Text putOnly(Text text) {
            Text before = items[0];
            size = 0;
            add(text, 0, 0);
            return before;
        }

        int rulesOfLatest() {
            return size == 0 ? 0 : items[size - 1].size;
        }

        /** Null ahead of the first one known. */
        Text inForce(int quarter, int asKnown) {
            Text found = null;
            for (int i = 0; i < size; i++) {
                if (items[i].quarter <= quarter && items[i].day <= asKnown) {
                    found = items[i];
                }
            }
            return found;
        }

        /** The least quarter of a text that came behind one day and up to another; QUARTERS without any. */
        int firstTouched(int behind, int upTo) {
            int first = QUARTERS;
            for (int i = 0; i < size; i++) {
                if (items[i].day > behind && items[i].day <= upTo) {
                    first = Math.min(first, items[i].quarter);
                }
            }
            return first;
        }
    }

    /** Reads the TAPE into a text. All that is named take.. answers false where it found a FAULT. */
    private static final class Reader {
        private static final int CANT_STAND = 1;
        private static final int WRONG_NUMBER = 4;
        private static final int TOO_MANY = 5;

        private final Token[] tokens = new Token[MOST_SIGNS + 1];
        private final int[] places = new int[MOST_SIGNS + 1];
        private final int[] numbers = new int[MOST_SIGNS + 1];
        private int last;
        private int at;
        private int fault;
        private int houseCount;
        private Text text;

        /** Takes the TAPE: 0, or its FAULT. */
        int parse(Tape tape, int houses, Text into) {
            scan(tape);
            tape.size = 0;
            at = 0;
            fault = 0;
            houseCount = houses;
            text = into;
            text.size = 0;
            text.codeSize = 0;
            for (int i = 0; i <= MOST_RULES && fault == 0 && tokens[at] != Token.REST; i++) {
                takeRule();
            }
            if (fault == 0) {
                takeRest();
            }
            return fault;
        }

        private void scan(Tape tape) {
            last = 0;
            for (int i = 0; i < tape.size; i++) {
                if (tape.tokenBegins(i)) {
                    scanToken(tape, i, tape.tokenEnd(i));
                }
            }
            tokens[last] = Token.END;
            places[last] = tape.size;
        }

        private void scanToken(Tape tape, int from, int to) {
            places[last] = from;
            if (tape.sort(from) != Tape.DIGIT) {
                tokens[last] = Token.spelled(tape, from, to);
            } else if (to - from > MOST_DIGITS) {
                tokens[last] = Token.NOTHING;
            } else {
                tokens[last] = Token.NUMBER;
                numbers[last] = tape.numberAt(from, to);
            }
            last++;
        }

        private boolean refuse(int kind) {
            fault = kind + 16 * places[at];
            return false;
        }

        /** The END stays where it is, so that there is always a token to look at. */
        private void step() {
            if (at < last) {
                at++;
            }
        }

        private boolean take(Token due) {
            if (tokens[at] != due) {
                return refuse(CANT_STAND);
            }
            step();
            return true;
        }

        private Token takeOneOf(Token a, Token b, Token c) {
            Token found = tokens[at];
            if (found != a && found != b && found != c) {
                refuse(CANT_STAND);
                return null;
            }
            step();
            return found;
        }

        private boolean takeRest() {
            if (!take(Token.REST)) {
                return false;
            }
            text.rest = takeOneOf(Token.FIRST, Token.MOST, Token.TURN);
            return text.rest != null && take(Token.SEMICOLON) && take(Token.END);
        }

        private boolean takeRule() {
            if (!tokens[at].beginsRule()) {
                return refuse(CANT_STAND);
            }
            if (text.size >= MOST_RULES) {
                return refuse(TOO_MANY);
            }
            Rule rule = text.rules[text.size];
            rule.whenFrom = text.codeSize;
            if (tokens[at] == Token.WHEN) {
                step();
                if (!takeExpression(0)) {
                    return false;
                }
            }
            rule.whenTo = text.codeSize;
            if (!takeAct(rule) || !take(Token.SEMICOLON)) {
                return false;
            }
            text.size++;
            return true;
        }

        private boolean takeAct(Rule rule) {
            rule.act = takeOneOf(Token.GIVE, Token.FILL, Token.PRICE);
            if (rule.act == null) {
                return false;
            }
            if (rule.act == Token.PRICE) {
                return takePrice(rule);
            }
            rule.amountFrom = text.codeSize;
            if (tokens[at] == Token.ALL) {
                step();
            } else if (!takeExpression(0)) {
                return false;
            }
            rule.amountTo = text.codeSize;
            return rule.act == Token.FILL || takeWays(rule);
        }

        private boolean takePrice(Rule rule) {
            rule.price = tokens[at].price();
            if (rule.price == NONE) {
                return refuse(CANT_STAND);
            }
            step();
            return takeNumber(rule, 0, MOST_PRICE);
        }

        private boolean takeNumber(Rule rule, int least, int most) {
            if (tokens[at] != Token.NUMBER) {
                return refuse(CANT_STAND);
            }
            if (!isIn(numbers[at], least, most)) {
                return refuse(WRONG_NUMBER);
            }
            rule.number = numbers[at];
            step();
            return true;
        }

        private boolean takeWays(Rule rule) {
            if (!take(Token.FROM)) {
                return false;
            }
            rule.source = takeOneOf(Token.POOL, Token.STORE, Token.STORE);
            if (rule.source == null || !take(Token.TO) || !takeWhom(rule) || !take(Token.BY)) {
                return false;
            }
            rule.way = takeOneOf(Token.HEADS, Token.WANTS, Token.SHARES);
            return rule.way != null;
        }

        private boolean takeWhom(Rule rule) {
            rule.whom = takeOneOf(Token.ALL, Token.HOUSE, Token.LEAST);
            if (rule.whom == null) {
                return false;
            }
            if (rule.whom == Token.HOUSE) {
                return takeNumber(rule, 0, houseCount - 1);
            }
            return rule.whom == Token.ALL || takeNumber(rule, 1, MOST_HOUSES);
        }

        /** An E inside of so many PARTS. */
        private boolean takeExpression(int around) {
            Token compare = null;
            Token joint = null;
            for (int i = 0; i < MOST_SIGNS; i++) {
                if (!takePart(around)) {
                    return false;
                }
                if (joint != null && !joint.isCompare()) {
                    text.emit(joint.code);
                }
                joint = tokens[at];
                if (!joint.isOperator() || (joint.isCompare() && compare != null)) {
                    break;
                }
                if (joint.isCompare()) {
                    compare = joint;
                }
                step();
            }
            // The SUM behind it has its code ahead of the sign that compares.
            if (compare != null) {
                text.emit(compare.code);
            }
            return true;
        }

        private boolean takePart(int around) {
            Token first = tokens[at];
            if (!first.beginsPart()) {
                return refuse(CANT_STAND);
            }
            if (around > MOST_PARTS_AROUND) {
                return refuse(TOO_MANY);
            }
            if (first == Token.OPEN) {
                step();
                return takeExpression(around + 1) && take(Token.CLOSE);
            }
            text.emit(first == Token.NUMBER ? numbers[at] : first.code);
            step();
            return true;
        }
    }

    /** One quarter while its RULES run. */
    private static final class Work {
        /** Each of the PARTS around leaves two sides open at most, a SUM's and an E's. */
        private static final int MOST_OPEN_SIDES = 2 * (MOST_PARTS_AROUND + 2);

        private final Houses houses;
        private final int cap;
        private final int loss;
        private int quarter;
        private int pool;
        private int store;
        private final int[] want = new int[MOST_HOUSES];
        private final int[] line = new int[MOST_HOUSES];
        private final int[] hadThatDay = new int[MOST_HOUSES];
        private final int[] fromPool = new int[MOST_HOUSES];
        private final int[] fromStore = new int[MOST_HOUSES];
        private final int[] chosen = new int[MOST_HOUSES];
        private int chosenSize;
        private final boolean[] isLeast = new boolean[MOST_HOUSES];
        private final int[] weight = new int[MOST_HOUSES];
        private final int[] sides = new int[MOST_OPEN_SIDES];
        /** The RULE whose doings are wanted by themselves, NONE for none. */
        private int watched;
        private int watchedFilled;
        private final int[] watchedGave = new int[MOST_HOUSES];
        private final int[] sums = new int[SUMS];

        Work(Houses houses, int cap, int loss) {
            this.houses = houses;
            this.cap = cap;
            this.loss = loss;
        }

        /** Behind this the prices are to be set, and the houses to be brought in. */
        void begin(int number, int storeAtFirst, int ruleToWatch) {
            quarter = number;
            watched = ruleToWatch;
            watchedFilled = 0;
            pool = 0;
            store = storeAtFirst;
            for (int k = 0; k < SUMS; k++) {
                sums[k] = 0;
            }
        }

        void bringIn(int house, int wants, int gives, int hadBefore) {
            int own = Math.min(wants, gives);
            want[house] = wants - own;
            pool += gives - own;
            sums[POOL_AT_FIRST] = pool;
            line[house] = houses.bears[house];
            hadThatDay[house] = hadBefore;
            fromPool[house] = 0;
            fromStore[house] = 0;
            watchedGave[house] = 0;
        }

        void apply(Text text, int i) {
            Rule rule = text.rules[i];
            if (rule.whenTo > rule.whenFrom && value(text, rule.whenFrom, rule.whenTo) == 0) {
                return;
            }
            if (rule.act == Token.PRICE) {
                sums[rule.price] = rule.number;
            } else if (rule.act == Token.FILL) {
                fill(amount(text, rule, pool), i);
            } else {
                give(text, i, amount(text, rule, rule.source == Token.POOL ? pool : store));
            }
        }

        /** All that comes behind the RULES. */
        void end() {
            int givenFromStore = 0;
            for (int h = 0; h < houses.size; h++) {
                givenFromStore += fromStore[h];
                sums[HOUSES_BOUGHT] += room(h);
                sums[DARK] += want[h] - room(h);
            }
            sums[TOWN_BOUGHT] = pool;
            sums[HAD_OF_POOL] = sums[POOL_AT_FIRST] - sums[FILLED] - pool;
            sums[LOST] = store * loss / 1000;
            sums[STORE_BEHIND] = store - sums[LOST];
            int paidToTown = sums[HOUSES_BOUGHT] * sums[BUY_PRICE];
            int paidByHouses = (sums[HAD_OF_POOL] - sums[POOL_AT_FIRST]) * sums[POOL_PRICE]
                    + givenFromStore * sums[STORE_PRICE] + paidToTown;
            sums[TOWN_COINS] = pool * sums[SELL_PRICE] - paidToTown;
            sums[POT_COINS] = -paidByHouses - sums[TOWN_COINS];
        }

        /** From 0 up to what the source has. */
        private int amount(Text text, Rule rule, int source) {
            if (rule.amountTo == rule.amountFrom) {
                return source;
            }
            return Math.max(0, Math.min(source, value(text, rule.amountFrom, rule.amountTo)));
        }

        private int value(Text text, int from, int to) {
            int open = 0;
            for (int i = from; i < to; i++) {
                int item = text.code[i];
                if (item <= Token.PLUS.code) {
                    if (open >= 2) {
                        open--;
                        sides[open - 1] = joined(item, sides[open - 1], sides[open]);
                    }
                } else if (open < MOST_OPEN_SIDES) {
                    sides[open] = item >= 0 ? item : measured(item);
                    open++;
                }
            }
            return sides[0];
        }

        private static int joined(int sign, int left, int right) {
            if (sign == Token.PLUS.code) {
                return left + right;
            }
            if (sign == Token.MINUS.code) {
                return left - right;
            }
            boolean holds = sign == Token.LESS.code ? left < right : left == right;
            return holds ? 1 : 0;
        }

        private int measured(int name) {
            if (name == Token.HOUR.code) {
                return quarter % QUARTERS_A_DAY;
            }
            if (name == Token.DAY.code) {
                return quarter / QUARTERS_A_DAY;
            }
            if (name == Token.POOL.code) {
                return pool;
            }
            return name == Token.STORE.code ? store : wantOfAll();
        }

        private int wantOfAll() {
            int sum = 0;
            for (int h = 0; h < houses.size; h++) {
                sum += want[h];
            }
            return sum;
        }

        private void fill(int most, int i) {
            int amount = Math.min(most, cap - store);
            pool -= amount;
            store += amount;
            sums[FILLED] += amount;
            if (i == watched) {
                watchedFilled = amount;
            }
        }

        private void give(Text text, int i, int amount) {
            Rule rule = text.rules[i];
            if (amount == 0) {
                return;
            }
            choose(rule);
            long weights = weigh(rule.way);
            if (weights <= 0) {
                return;
            }
            int left = amount;
            for (int c = 0; c < chosenSize; c++) {
                int h = chosen[c];
                long part = Math.min(amount * (long) weight[h] / weights, room(h));
                hand(rule, i, h, (int) part);
                left -= (int) part;
            }
            if (left < chosenSize) {
                handRest(text, i, left);
            }
        }

        /** What a house still wants and its line still bears. */
        private int room(int house) {
            return want[house] < line[house] ? want[house] : line[house];
        }

        /** Those to whom the RULE gives, by their numbers. */
        private void choose(Rule rule) {
            chosenSize = 0;
            for (int h = 0; h < houses.size; h++) {
                if (room(h) > 0 && (rule.whom != Token.HOUSE || rule.number == h)) {
                    chosen[chosenSize] = h;
                    chosenSize++;
                }
            }
            if (rule.whom == Token.LEAST && rule.number < chosenSize) {
                keepLeast(rule.number);
            }
        }

        /** Takes those out of the chosen that had most. */
        private void keepLeast(int many) {
            for (int c = 0; c < chosenSize; c++) {
                isLeast[c] = chosenAhead(c) < many;
            }
            int kept = 0;
            for (int c = 0; c < chosenSize; c++) {
                if (isLeast[c]) {
                    chosen[kept] = chosen[c];
                    kept++;
                }
            }
            chosenSize = kept;
        }

        /** How many of the chosen come ahead of one of them because they had less. */
        private int chosenAhead(int one) {
            int had = hadThatDay[chosen[one]];
            int ahead = 0;
            for (int c = 0; c < chosenSize; c++) {
                int other = hadThatDay[chosen[c]];
                if (other < had || (other == had && c < one)) {
                    ahead++;
                }
            }
            return ahead;
        }

        /** The weights of the chosen: all of them together. */
        private long weigh(Token way) {
            long sum = 0;
            for (int c = 0; c < chosenSize; c++) {
                int h = chosen[c];
                if (way == Token.HEADS) {
                    weight[h] = 1;
                } else {
                    weight[h] = way == Token.WANTS ? room(h) : houses.share[h];
                }
                sum += weight[h];
            }
            return sum;
        }

        private void hand(Rule rule, int i, int house, int part) {
            want[house] -= part;
            line[house] -= part;
            hadThatDay[house] += part;
            if (i == watched) {
                watchedGave[house] += part;
            }
            if (rule.source == Token.POOL) {
                pool -= part;
                fromPool[house] += part;
            } else {
                store -= part;
                fromStore[house] += part;
            }
        }

        private void handRest(Text text, int i, int left) {
            int start = 0;
            if (text.rest == Token.MOST) {
                sortByWant();
            } else if (text.rest == Token.TURN && houses.size > 0) {
                start = quarter % houses.size;
            }
            int still = handOnes(text.rules[i], i, left, start, MOST_HOUSES);
            handOnes(text.rules[i], i, still, 0, start);
        }

        /** One to each of the chosen that has room and a number in the span, while there are any: what is left. */
        private int handOnes(Rule rule, int i, int left, int from, int below) {
            int still = left;
            for (int c = 0; c < chosenSize; c++) {
                int h = chosen[c];
                if (still > 0 && h >= from && h < below && room(h) > 0) {
                    hand(rule, i, h, 1);
                    still--;
                }
            }
            return still;
        }

        /** Most first; equal ones stay by their numbers. */
        private void sortByWant() {
            for (int c = 1; c < chosenSize; c++) {
                int house = chosen[c];
                int to = c;
                while (to > 0 && want[chosen[to - 1]] < want[house]) {
                    chosen[to] = chosen[to - 1];
                    to--;
                }
                chosen[to] = house;
            }
        }
    }

    /**
     * The quarters as known on one day under some texts. Of the houses it holds what can't be told
     * from the READINGS; all else of them is reckoned when it is asked for.
     */
    private static final class Book {
        private final Houses houses;
        private final Readings readings;
        private final Texts texts;
        private final Work work;
        private int asKnown;
        /** The quarters below this one are as they should be. */
        private int worked;
        // These four have a cell for each house in each quarter.
        /** The number of the READING that counts, NONE without any. */
        private final int[] reading = new int[QUARTERS * MOST_HOUSES];
        private final int[] fromPool = new int[QUARTERS * MOST_HOUSES];
        private final int[] fromStore = new int[QUARTERS * MOST_HOUSES];
        /** By RULES, from the day's first quarter up to this one. */
        private final int[] hadThatDay = new int[QUARTERS * MOST_HOUSES];
        private final int[] sums = new int[QUARTERS * SUMS];

        Book(Houses houses, Readings readings, Texts texts, Work work) {
            this.houses = houses;
            this.readings = readings;
            this.texts = texts;
            this.work = work;
        }

        void forgetFrom(int quarter) {
            worked = Math.min(worked, quarter);
        }

        void workTo(int quarter, int day) {
            turnTo(day);
            if (quarter < worked) {
                return;
            }
            placeReadings(quarter);
            for (int q = worked; q <= quarter; q++) {
                workAgain(q, NONE);
            }
            worked = quarter + 1;
        }

        private void turnTo(int day) {
            int behind = Math.min(day, asKnown);
            int upTo = Math.max(day, asKnown);
            if (behind < upTo) {
                forgetFrom(readings.firstTouched(behind, upTo));
                forgetFrom(texts.firstTouched(behind, upTo));
                asKnown = day;
            }
        }

        private void placeReadings(int upTo) {
            for (int i = cell(0, worked); i < cell(0, upTo + 1); i++) {
                reading[i] = NONE;
            }
            for (int r = 0; r < readings.size; r++) {
                if (readings.day[r] <= asKnown && isIn(readings.quarter[r], worked, upTo)) {
                    reading[cell(readings.house[r], readings.quarter[r])] = r;
                }
            }
        }

        /** Works a quarter whose READINGS are placed, the ones ahead of it being worked, and watches a RULE of it. */
        void workAgain(int quarter, int watched) {
            work.begin(quarter, quarter == 0 ? 0 : sum(quarter - 1, STORE_BEHIND), watched);
            for (int k = POOL_PRICE; k <= SELL_PRICE; k++) {
                work.sums[k] = quarter == 0 ? 0 : sum(quarter - 1, k);
            }
            for (int h = 0; h < houses.size; h++) {
                bringIn(h, quarter);
            }
            Text text = texts.inForce(quarter, asKnown);
            int size = text == null ? 0 : text.size;
            for (int i = 0; i < size; i++) {
                work.apply(text, i);
            }
            work.end();
            write(quarter);
        }

        private void bringIn(int house, int quarter) {
            int cell = cell(house, quarter);
            if (reading[cell] == NONE && quarter > 0) {
                reading[cell] = reading[cell - MOST_HOUSES];
            }
            int before = quarter % QUARTERS_A_DAY == 0 ? 0 : hadThatDay[cell - MOST_HOUSES];
            work.bringIn(house, wants(cell), gives(cell), before);
        }

        private void write(int quarter) {
            for (int h = 0; h < houses.size; h++) {
                int cell = cell(h, quarter);
                fromPool[cell] = work.fromPool[h];
                fromStore[cell] = work.fromStore[h];
                hadThatDay[cell] = work.hadThatDay[h];
            }
            System.arraycopy(work.sums, 0, sums, quarter * SUMS, SUMS);
        }

        private static int cell(int house, int quarter) {
            return quarter * MOST_HOUSES + house;
        }

        int sum(int quarter, int what) {
            return sums[quarter * SUMS + what];
        }

        int ofHouse(int house, int quarter, int what) {
            int cell = cell(house, quarter);
            switch (what) {
                case 0: return wants(cell);
                case 1: return gives(cell);
                case 2: return own(cell);
                case 3: return fromPool[cell];
                case 4: return fromStore[cell];
                case 5: return bought(house, cell);
                case 6: return lacked(cell) - bought(house, cell);
                case 7: return isInDoubt(cell, quarter) ? 1 : 0;
                default: return coins(house, quarter);
            }
        }

        int byRules(int house, int quarter) {
            int cell = cell(house, quarter);
            return fromPool[cell] + fromStore[cell];
        }

        private int wants(int cell) {
            return reading[cell] == NONE ? 0 : readings.wants[reading[cell]];
        }

        private int gives(int cell) {
            return reading[cell] == NONE ? 0 : readings.gives[reading[cell]];
        }

        private int own(int cell) {
            return Math.min(wants(cell), gives(cell));
        }

        private boolean isInDoubt(int cell, int quarter) {
            return reading[cell] == NONE || readings.quarter[reading[cell]] != quarter;
        }

        /** What the RULES left it wanting. */
        private int lacked(int cell) {
            return wants(cell) - own(cell) - fromPool[cell] - fromStore[cell];
        }

        private int bought(int house, int cell) {
            return Math.min(lacked(cell), houses.bears[house] - fromPool[cell] - fromStore[cell]);
        }

        private int coins(int house, int quarter) {
            int cell = cell(house, quarter);
            int gift = gives(cell) - own(cell);
            return (fromPool[cell] - gift) * sum(quarter, POOL_PRICE)
                    + fromStore[cell] * sum(quarter, STORE_PRICE)
                    + bought(house, cell) * sum(quarter, BUY_PRICE);
        }

        /** Of a house, the TOWN or the POT, in all quarters below the end. */
        int coinsUpTo(int who, int end) {
            int comesTo = 0;
            for (int q = 0; q < end; q++) {
                if (who == POT) {
                    comesTo += sum(q, POT_COINS);
                } else {
                    comesTo += who == TOWN ? sum(q, TOWN_COINS) : coins(who, q);
                }
            }
            return comesTo;
        }
    }

    /** The bills that are out; of a day one for each house, the TOWN and the POT. */
    private static final class Bills {
        private static final int BILLS_A_DAY = MOST_HOUSES + 2;

        private final int[] coins = new int[BILL_DAYS * BILLS_A_DAY];
        private int days;

        static int slot(int day, int who) {
            return day * BILLS_A_DAY + who - POT;
        }

        /** The bill of the day that goes out. */
        void write(int who, int comesTo) {
            int out = 0;
            for (int d = 0; d < days; d++) {
                out += coins[slot(d, who)];
            }
            coins[slot(days, who)] = comesTo - out;
        }
    }
}
