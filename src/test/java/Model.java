import java.util.ArrayList;
import java.util.Comparator;
import java.util.List;
import java.util.NoSuchElementException;
import java.util.regex.Matcher;
import java.util.regex.Pattern;

/**
 * The document once more, written to be read and not to be fast: it keeps only what came in, and
 * works every quarter from the first one on at each look. RULES stay lists of words.
 */
final class Model {
    static final Pattern TOKEN = Pattern.compile("[a-z]+|[0-9]+|[^ \n]");

    static final class Fault extends Exception {
        private static final long serialVersionUID = 1L;
        final int number;

        Fault(int number) {
            this.number = number;
        }
    }

    record House(int share, int bears) { }

    record Reading(int house, int quarter, int wants, int gives, int day) { }

    record Words(int from, int day, List<List<String>> rules, String rest) { }

    /** A house in a quarter. */
    static final class Seat {
        int number, wants, gives, own, pool, store, bought, dark, doubt, coins, want, line, today;

        int room() {
            return Math.min(want, line);
        }

        int byRules() {
            return pool + store;
        }
    }

    static final class Quarter {
        int number, poolAtFirst, pool, filled, store, lost, townCoins, potCoins;
        int[] prices = new int[4];
        List<Seat> seats = new ArrayList<>();
        List<int[]> given = new ArrayList<>();
        List<Integer> fills = new ArrayList<>();
    }

    final int cap, loss;
    final List<House> houses = new ArrayList<>();
    final List<Reading> readings = new ArrayList<>();
    final List<Words> texts = new ArrayList<>();
    final List<int[]> bills = new ArrayList<>();
    Words other;
    String tape = "";
    int now = 0, lookDay = -1;

    Model(int cap, int loss) {
        this.cap = cap < 0 || cap > 1000000 ? 1000 : cap;
        this.loss = loss < 0 || loss > 500 ? 0 : loss;
    }

    int house(int share, int bears) {
        if (share < 1 || share > 1000 || bears < 0 || bears > 5000 || houses.size() == 12
                || !readings.isEmpty() || !texts.isEmpty() || other != null) {
            return -1;
        }
        houses.add(new House(share, bears));
        return houses.size() - 1;
    }

    boolean isHouse(int house) {
        return house >= 0 && house < houses.size();
    }

    static boolean isQuarter(int quarter) {
        return quarter >= 0 && quarter < 240;
    }

    boolean read(int house, int quarter, int wants, int gives) {
        if (!isHouse(house) || !isQuarter(quarter) || wants < 0 || wants > 5000 || gives < 0 || gives > 5000
                || readings.size() == 400) {
            return false;
        }
        return readings.add(new Reading(house, quarter, wants, gives, now));
    }

    int days(int n) {
        return n < 0 || n > 100 ? -1 : (now += n);
    }

    int feed(long a, long b, long c) {
        for (byte sign : java.nio.ByteBuffer.allocate(24).putLong(a).putLong(b).putLong(c).array()) {
            if (tape.length() < 1200 && (sign == 10 || sign >= 32 && sign < 127)) {
                tape += (char) sign;
            }
        }
        return tape.length();
    }

    int text(int quarter) {
        String signs = tape;
        tape = "";
        if (!isQuarter(quarter) || texts.size() == 6
                || !texts.isEmpty() && texts.get(texts.size() - 1).from() >= quarter) {
            return -1;
        }
        try {
            texts.add(new Parser(signs).parse(quarter, now));
            return 0;
        } catch (Fault fault) {
            return fault.number;
        }
    }

    int other() {
        String signs = tape;
        tape = "";
        try {
            other = new Parser(signs).parse(0, 0);
            return 0;
        } catch (Fault fault) {
            return fault.number;
        }
    }

    boolean known(int day) {
        if (day < -1 || day > now) {
            return false;
        }
        lookDay = day;
        return true;
    }

    int lookDay() {
        return lookDay == -1 ? now : lookDay;
    }

    int had(int house, int quarter, int what) {
        if (!isHouse(house) || !isQuarter(quarter) || what < 0 || what > 8) {
            throw new NoSuchElementException();
        }
        Seat s = last(work(quarter, lookDay(), texts)).seats.get(house);
        return new int[] {s.wants, s.gives, s.own, s.pool, s.store, s.bought, s.dark, s.doubt, s.coins}[what];
    }

    int quarter(int quarter, int what) {
        if (!isQuarter(quarter) || what < 0 || what > 13) {
            throw new NoSuchElementException();
        }
        Quarter q = last(work(quarter, lookDay(), texts));
        int had = q.seats.stream().mapToInt(s -> s.pool).sum();
        int bought = q.seats.stream().mapToInt(s -> s.bought).sum();
        int dark = q.seats.stream().mapToInt(s -> s.dark).sum();
        return new int[] {q.poolAtFirst, had, q.filled, q.poolAtFirst - had - q.filled, q.store, q.lost, bought, dark,
            q.townCoins, q.potCoins, q.prices[0], q.prices[1], q.prices[2], q.prices[3]}[what];
    }

    int by(int quarter, int i, int house) {
        if (!isQuarter(quarter) || house != -1 && !isHouse(house)) {
            return -1;
        }
        Words words = inForce(quarter, lookDay(), texts);
        if (words == null || i < 0 || i >= words.rules().size()) {
            return -1;
        }
        Quarter q = last(work(quarter, lookDay(), texts));
        if (house == -1) {
            return words.rules().get(i).contains("fill") ? q.fills.get(i) : -1;
        }
        return q.given.get(i)[house];
    }

    int would(int house, int quarter) {
        if (!isHouse(house) || !isQuarter(quarter) || other == null) {
            return -1;
        }
        return last(work(quarter, lookDay(), List.of(other))).seats.get(house).byRules();
    }

    int bills() {
        if (bills.size() == 10) {
            return -1;
        }
        int[] row = new int[14];
        for (Quarter q : work(bills.size() * 24 + 23, now, texts)) {
            row[0] += q.potCoins;
            row[1] += q.townCoins;
            q.seats.forEach(s -> row[2 + s.number] += s.coins);
        }
        for (int[] out : bills) {
            for (int k = 0; k < 14; k++) {
                row[k] -= out[k];
            }
        }
        bills.add(row);
        return bills.size() - 1;
    }

    int bill(int day, int house) {
        if (day < 0 || day >= bills.size() || house < -2 || house >= houses.size()) {
            throw new NoSuchElementException();
        }
        return bills.get(day)[house + 2];
    }

    int count(int what) {
        int[] all = {houses.size(), readings.size(), now, texts.size(), bills.size(), tape.length(),
            texts.isEmpty() ? 0 : texts.get(texts.size() - 1).rules().size(), other == null ? 0 : 1, lookDay};
        return what < 0 || what >= all.length ? -1 : all[what];
    }

    private static Quarter last(List<Quarter> quarters) {
        return quarters.get(quarters.size() - 1);
    }

    private static Words inForce(int quarter, int day, List<Words> texts) {
        return texts.stream().filter(t -> t.day() <= day && t.from() <= quarter)
                .max(Comparator.comparingInt(Words::from)).orElse(null);
    }

    private List<Quarter> work(int upTo, int day, List<Words> texts) {
        List<Quarter> all = new ArrayList<>();
        for (int n = 0; n <= upTo; n++) {
            Quarter q = new Quarter();
            q.number = n;
            if (n > 0) {
                q.store = all.get(n - 1).store;
                q.prices = all.get(n - 1).prices.clone();
            }
            for (int h = 0; h < houses.size(); h++) {
                q.seats.add(seat(h, n, day, all));
            }
            q.poolAtFirst = q.pool = q.seats.stream().mapToInt(s -> s.gives - s.own).sum();
            Words words = inForce(n, day, texts);
            if (words != null) {
                words.rules().forEach(rule -> apply(q, rule, words.rest()));
            }
            close(q);
            all.add(q);
        }
        return all;
    }

    private Seat seat(int house, int quarter, int day, List<Quarter> ahead) {
        Seat s = new Seat();
        s.number = house;
        Reading found = null;
        for (Reading r : readings) {
            if (r.house() == house && r.day() <= day && r.quarter() <= quarter
                    && (found == null || r.quarter() >= found.quarter())) {
                found = r;
            }
        }
        s.doubt = found == null || found.quarter() != quarter ? 1 : 0;
        s.wants = found == null ? 0 : found.wants();
        s.gives = found == null ? 0 : found.gives();
        s.own = Math.min(s.wants, s.gives);
        s.want = s.wants - s.own;
        s.line = houses.get(house).bears();
        for (Quarter q : ahead) {
            if (q.number / 24 == quarter / 24) {
                s.today += q.seats.get(house).byRules();
            }
        }
        return s;
    }

    private void close(Quarter q) {
        int houseCoins = 0;
        int sold = 0;
        for (Seat s : q.seats) {
            s.bought = s.room();
            s.dark = s.want - s.bought;
            s.coins = s.pool * q.prices[0] + s.store * q.prices[1] + s.bought * q.prices[2]
                    - (s.gives - s.own) * q.prices[0];
            houseCoins += s.coins;
            sold += s.bought;
        }
        q.townCoins = q.pool * q.prices[3] - sold * q.prices[2];
        q.potCoins = -houseCoins - q.townCoins;
        q.lost = (int) ((long) q.store * loss / 1000);
        q.store -= q.lost;
    }

    private void apply(Quarter q, List<String> rule, String rest) {
        q.given.add(new int[12]);
        q.fills.add(0);
        Reader in = new Reader(rule, q);
        if (in.next("when") && in.e() == 0) {
            return;
        }
        if (in.next("price")) {
            q.prices[List.of("pool", "store", "buy", "sell").indexOf(in.take())] = Integer.parseInt(in.take());
        } else if (in.next("fill")) {
            int amount = in.next("all") ? q.pool : in.e();
            amount = Math.max(0, Math.min(amount, Math.min(q.pool, cap - q.store)));
            q.pool -= amount;
            q.store += amount;
            q.filled += amount;
            q.fills.set(q.fills.size() - 1, amount);
        } else {
            in.next("give");
            give(q, in, rest);
        }
    }

    private void give(Quarter q, Reader in, String rest) {
        int amount = in.next("all") ? Integer.MAX_VALUE : Math.max(0, in.e());
        in.next("from");
        boolean fromPool = in.take().equals("pool");
        int a = Math.min(amount, fromPool ? q.pool : q.store);
        in.next("to");
        List<Seat> to = new ArrayList<>(q.seats);
        to.removeIf(s -> s.want == 0 || s.line == 0);
        String whom = in.take();
        if (whom.equals("house")) {
            int number = Integer.parseInt(in.take());
            to.removeIf(s -> s.number != number);
        } else if (whom.equals("least")) {
            int most = Integer.parseInt(in.take());
            to.sort(Comparator.comparingInt((Seat s) -> s.today + s.byRules()).thenComparingInt(s -> s.number));
            to = new ArrayList<>(to.subList(0, Math.min(most, to.size())));
            to.sort(Comparator.comparingInt(s -> s.number));
        }
        in.next("by");
        String way = in.take();
        long[] weights = new long[to.size()];
        long sum = 0;
        for (int k = 0; k < weights.length; k++) {
            Seat s = to.get(k);
            weights[k] = way.equals("heads") ? 1 : way.equals("wants") ? s.room() : houses.get(s.number).share();
            sum += weights[k];
        }
        int left = a;
        for (int k = 0; k < weights.length; k++) {
            Seat s = to.get(k);
            left -= hand(q, s, (int) Math.min(a * weights[k] / sum, s.room()), fromPool);
        }
        if (left >= to.size()) {
            return;
        }
        int start = q.number % houses.size();
        if (rest.equals("most")) {
            to.sort(Comparator.comparingInt((Seat s) -> -s.want).thenComparingInt(s -> s.number));
        } else if (rest.equals("turn")) {
            to.sort(Comparator.comparingInt((Seat s) -> s.number >= start ? s.number : s.number + 100));
        }
        for (Seat s : to) {
            if (left > 0 && s.room() > 0) {
                left -= hand(q, s, 1, fromPool);
            }
        }
    }

    private static int hand(Quarter q, Seat s, int part, boolean fromPool) {
        s.want -= part;
        s.line -= part;
        if (fromPool) {
            s.pool += part;
            q.pool -= part;
        } else {
            s.store += part;
            q.store -= part;
        }
        q.given.get(q.given.size() - 1)[s.number] += part;
        return part;
    }

    /** Reads a RULE that is known to have no FAULT. */
    private static final class Reader {
        private final List<String> words;
        private final Quarter q;
        private int at = 0;

        Reader(List<String> words, Quarter q) {
            this.words = words;
            this.q = q;
        }

        String take() {
            return words.get(at++);
        }

        boolean next(String word) {
            boolean there = at < words.size() && words.get(at).equals(word);
            at += there ? 1 : 0;
            return there;
        }

        int e() {
            int left = sum();
            if (next("<")) {
                return left < sum() ? 1 : 0;
            }
            if (next("=")) {
                return left == sum() ? 1 : 0;
            }
            return left;
        }

        private int sum() {
            int sum = part();
            while (true) {
                if (next("+")) {
                    sum += part();
                } else if (next("-")) {
                    sum -= part();
                } else {
                    return sum;
                }
            }
        }

        private int part() {
            String word = take();
            switch (word) {
                case "(":
                    int inner = e();
                    take();
                    return inner;
                case "hour": return q.number % 24;
                case "day": return q.number / 24;
                case "pool": return q.pool;
                case "store": return q.store;
                case "want": return q.seats.stream().mapToInt(s -> s.want).sum();
                default: return Integer.parseInt(word);
            }
        }
    }

    /** Reads a text as a whole, or throws its FAULT. */
    private final class Parser {
        private final List<String> words = new ArrayList<>();
        private final List<Integer> places = new ArrayList<>();
        private int at = 0;

        Parser(String signs) {
            Matcher tokens = TOKEN.matcher(signs);
            while (tokens.find()) {
                words.add(tokens.group());
                places.add(tokens.start());
            }
            words.add("");
            places.add(signs.length());
        }

        Words parse(int quarter, int day) throws Fault {
            List<List<String>> rules = new ArrayList<>();
            while (!words.get(at).equals("rest")) {
                int from = at;
                must("when", "give", "fill", "price");
                at = from;
                if (rules.size() == 24) {
                    throw fault(5);
                }
                rule();
                rules.add(List.copyOf(words.subList(from, at)));
                must(";");
            }
            must("rest");
            String how = must("first", "most", "turn");
            must(";");
            must("");
            return new Words(quarter, day, rules, how);
        }

        private Fault fault(int kind) {
            return new Fault(kind + 16 * places.get(at));
        }

        private String must(String... any) throws Fault {
            if (!List.of(any).contains(words.get(at))) {
                throw fault(1);
            }
            return words.get(at++);
        }

        private boolean isNumber() {
            return words.get(at).matches("[0-9]{1,6}");
        }

        private void number(int least, int most) throws Fault {
            if (!isNumber()) {
                throw fault(1);
            }
            int n = Integer.parseInt(words.get(at));
            if (n < least || n > most) {
                throw fault(4);
            }
            at++;
        }

        private void rule() throws Fault {
            if (words.get(at).equals("when")) {
                at++;
                e(0);
            }
            String act = must("give", "fill", "price");
            if (act.equals("price")) {
                must("pool", "store", "buy", "sell");
                number(0, 100);
                return;
            }
            if (words.get(at).equals("all")) {
                at++;
            } else {
                e(0);
            }
            if (act.equals("give")) {
                must("from");
                must("pool", "store");
                must("to");
                String whom = must("all", "house", "least");
                if (whom.equals("house")) {
                    number(0, houses.size() - 1);
                } else if (whom.equals("least")) {
                    number(1, 12);
                }
                must("by");
                must("heads", "wants", "shares");
            }
        }

        private void e(int around) throws Fault {
            sum(around);
            if (List.of("<", "=").contains(words.get(at))) {
                at++;
                sum(around);
            }
        }

        private void sum(int around) throws Fault {
            part(around);
            while (List.of("+", "-").contains(words.get(at))) {
                at++;
                part(around);
            }
        }

        private void part(int around) throws Fault {
            boolean bracket = words.get(at).equals("(");
            if (!bracket && !isNumber() && !List.of("hour", "day", "pool", "store", "want").contains(words.get(at))) {
                throw fault(1);
            }
            if (around == 6) {
                throw fault(5);
            }
            at++;
            if (bracket) {
                e(around + 1);
                must(")");
            }
        }
    }
}
