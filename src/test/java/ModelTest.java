import java.util.NoSuchElementException;
import java.util.Random;

/** All promises at once: long runs of calls by chance (the same ones each time), each answer against the Model's. */
public final class ModelTest {
    private static final int RUNS = 240;
    /** What an object answers behind its 512th call is free. */
    private static final int MOST_CALLS = 512;
    private static final int NO_SUCH = 987654321;

    private final Random chance;
    private final SunVillage village;
    private final Model model;
    private final boolean sunny;
    private int calls;

    private ModelTest(int run) {
        chance = new Random(run);
        int[] caps = {0, 1, 100, 1000, 5000, 1000000, -1, 1000001};
        int[] losses = {0, 0, 1, 10, 100, 500, 501, -1};
        int cap = caps[chance.nextInt(caps.length)];
        int loss = losses[chance.nextInt(losses.length)];
        village = new SunVillage(cap, loss);
        model = new Model(cap, loss);
        sunny = chance.nextBoolean();
    }

    public static void main(String[] args) {
        for (int run = 0; run < RUNS; run++) {
            new ModelTest(run).play(run);
        }
        Check.end("ModelTest");
    }

    private int below(int bound) {
        return chance.nextInt(bound);
    }

    private void play(int run) {
        int houses = run % 13;
        for (int h = 0; h < houses; h++) {
            int share = 1 + below(run % 2 == 0 ? 5 : 1000);
            int bears = below(3) == 0 ? below(60) : below(5001);
            Check.due(run + ": house", village.house(share, bears), model.house(share, bears));
            calls++;
        }
        // A long text takes some hundred calls to feed.
        while (calls < MOST_CALLS - 101) {
            step(run + ": call " + calls);
        }
        while (calls < MOST_CALLS) {
            look(run + ": last look " + calls);
        }
    }

    private void step(String name) {
        int kind = below(100);
        if (kind >= 56) {
            look(name);
            return;
        }
        calls++;
        if (kind < 30) {
            int house = below(13) - (below(20) == 0 ? 1 : 0);
            int quarter = below(20) == 0 ? below(260) - 10 : below(60);
            int wants = amount();
            int gives = amount();
            Check.due(name + " read", village.read(house, quarter, wants, gives), model.read(house, quarter, wants, gives));
        } else if (kind < 36) {
            int n = below(10) == 0 ? below(140) - 20 : below(3);
            Check.due(name + " days", village.days(n), model.days(n));
        } else if (kind < 42) {
            feed(name);
            int latest = model.texts.isEmpty() ? -1 : model.texts.get(model.texts.size() - 1).from();
            int quarter = below(5) == 0 ? below(250) - 5 : latest + 1 + below(12);
            Check.due(name + " text", village.text(quarter), model.text(quarter));
        } else if (kind < 46) {
            feed(name);
            Check.due(name + " other", village.other(), model.other());
        } else if (kind < 52) {
            int day = below(model.now + 4) - 2;
            Check.due(name + " known", village.known(day), model.known(day));
        } else if (kind < 55) {
            Check.due(name + " bills", village.bills(), model.bills());
        } else {
            Check.due(name + " house", village.house(1, 1), model.house(1, 1));
        }
    }

    private int amount() {
        int kind = below(10);
        if (kind == 0) {
            return below(5100) - 50;
        }
        return kind < 4 ? 0 : below(sunny ? 400 : 30);
    }

    private interface Call {
        int answer();
    }

    private static int orNoSuch(Call call) {
        try {
            return call.answer();
        } catch (NoSuchElementException e) {
            return NO_SUCH;
        }
    }

    private void look(String name) {
        int quarter = below(15) == 0 ? below(250) - 5 : below(70);
        int house = below(Math.max(1, model.houses.size()) + 2) - 2 + below(2);
        int what = below(16) - 1;
        calls++;
        switch (below(7)) {
            case 0:
            case 1:
                Check.due(name + " had " + house + " " + quarter + " " + what,
                        orNoSuch(() -> village.had(house, quarter, what)), orNoSuch(() -> model.had(house, quarter, what)));
                break;
            case 2:
                Check.due(name + " quarter " + quarter + " " + what,
                        orNoSuch(() -> village.quarter(quarter, what)), orNoSuch(() -> model.quarter(quarter, what)));
                break;
            case 3:
                int i = below(8) - 1;
                Check.due(name + " by " + quarter + " " + i + " " + house,
                        village.by(quarter, i, house), model.by(quarter, i, house));
                break;
            case 4:
                Check.due(name + " would " + house + " " + quarter,
                        village.would(house, quarter), model.would(house, quarter));
                break;
            case 5:
                int day = below(model.bills.size() + 2) - 1;
                Check.due(name + " bill " + day + " " + house,
                        orNoSuch(() -> village.bill(day, house)), orNoSuch(() -> model.bill(day, house)));
                break;
            default:
                Check.due(name + " count " + what, village.count(what), model.count(what));
                break;
        }
    }

    private void feed(String name) {
        String signs = rules();
        if (below(4) == 0) {
            signs = spoiled(signs);
        }
        for (int i = 0; i < signs.length(); i += 24) {
            long a = Check.eight(signs, i);
            long b = Check.eight(signs, i + 8);
            long c = Check.eight(signs, i + 16);
            Check.due(name + " feed", village.feed(a, b, c), model.feed(a, b, c));
            calls++;
        }
    }

    private String rules() {
        StringBuilder signs = new StringBuilder();
        int many = below(12) == 0 ? 23 + below(4) : below(7);
        for (int i = 0; i < many; i++) {
            if (below(3) == 0) {
                signs.append("when ").append(expression(0)).append(blank());
            }
            signs.append(act()).append(blank()).append(';').append(blank());
        }
        return signs + "rest " + one("first", "most", "turn") + blank() + ";" + blank();
    }

    private String act() {
        int kind = below(10);
        if (kind < 2) {
            return "price " + one("pool", "store", "buy", "sell") + " " + below(30) * below(5);
        }
        String amount = below(3) == 0 ? "all" : expression(0);
        if (kind < 5) {
            return "fill " + amount;
        }
        String whom = one("all", "all", "house " + below(13), "least " + below(14), "least " + (1 + below(4)));
        return "give " + amount + " from " + one("pool", "store") + " to " + whom + " by " + one("heads", "wants", "shares");
    }

    private String expression(int around) {
        String sum = sum(around);
        return below(3) == 0 ? sum + blank() + one("<", "=") + blank() + sum(around) : sum;
    }

    private String sum(int around) {
        StringBuilder sum = new StringBuilder(part(around));
        int more = below(3) == 0 ? below(4) : 0;
        for (int i = 0; i < more; i++) {
            sum.append(blank()).append(one("+", "-")).append(blank()).append(part(around));
        }
        return sum.toString();
    }

    private String part(int around) {
        if (around < 7 && below(6 + around) < 2) {
            return "(" + blank() + expression(around + 1) + blank() + ")";
        }
        return one("hour", "day", "pool", "store", "want", "" + below(30), "" + below(30), "" + below(2000));
    }

    private String blank() {
        return one("", "", " ", "  ", "\n");
    }

    private String one(String... any) {
        return any[below(any.length)];
    }

    private String spoiled(String signs) {
        int at = below(signs.length());
        int to = Math.min(signs.length(), at + 1 + below(4));
        String put = one("", "", ";", "1", "a", " all ", "(", ")", "A", "<", "=", "-", "1234567", "rest", " house 9 ", "@");
        return signs.substring(0, at) + put + signs.substring(below(3) == 0 ? at : to);
    }
}
