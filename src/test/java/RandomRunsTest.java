import java.util.Arrays;
import java.util.Map;
import java.util.Random;
import java.util.TreeMap;

/** Random runs of up to 512 calls on the program and on the plain desk: every answer is the same, and none is thrown. */
public final class RandomRunsTest {
    private static final int RUNS = 1500, CALLS = 512;
    private static final String[] CALL_NAMES = {"model", "price", "priceOn", "lot", "hours", "till", "sell", "gift",
        "ofSale", "join", "keep", "feed", "end", "text", "inForce", "says", "ask", "judged", "ofAsking", "take", "leave",
        "note", "stock", "worth", "sort", "sellUsed", "ofLot", "beyond", "since", "honest", "limit", "tried", "hits",
        "size", "shift", "brought", "damage", "carrier", "count"};
    private static final String[] OFTEN = {"sell", "sell", "sell", "ask", "ask", "ask", "take", "take", "take", "sort",
        "hours", "judged", "ofAsking", "TEXT", "LIMIT", "size", "brought", "sellUsed", "worth", "says"};

    private final Random random;
    private final RandomTexts texts;
    private final ReturnDesk desk = new ReturnDesk();
    private final PlainDesk plain = new PlainDesk();
    private final StringBuilder log = new StringBuilder();
    private final Map<String, Integer> answers;
    private int calls;
    private boolean differs;
    /** Some runs sell one MODEL on few DAYS, some many on all DAYS. */
    private final int models, longest;
    /** Some runs mostly sell, and take things back, so that lots and charts have much to count. */
    private final boolean busy;

    private RandomRunsTest(long seed, Map<String, Integer> answers) {
        this.random = new Random(seed);
        this.texts = new RandomTexts(random);
        this.answers = answers;
        this.models = 1 + random.nextInt(3);
        this.busy = random.nextInt(3) == 0;
        this.longest = new int[] {12, 60, 400, 2400}[random.nextInt(4)];
    }

    public static void main(String[] args) {
        int runs = args.length > 0 ? Integer.parseInt(args[0]) : RUNS;
        long first = args.length > 1 ? Long.parseLong(args[1]) : 0;
        Map<String, Integer> answers = new TreeMap<>();
        int wrong = 0;
        for (long seed = first; seed < first + runs && wrong < 3; seed++) {
            RandomRunsTest run = new RandomRunsTest(seed, answers);
            run.go();
            if (run.differs) {
                wrong++;
                System.out.println("seed " + seed + ":\n" + run.log);
            }
        }
        if (args.length > 2) {
            answers.forEach((what, n) -> System.out.println(what + ": " + n));
        }
        System.out.println("random runs: " + runs + " runs, " + wrong + " wrong");
        if (wrong != 0) {
            System.exit(1);
        }
    }

    private void go() {
        for (int m = 0; m < models; m++) {
            call("model", random.nextInt(10), 1 + random.nextInt(999), random.nextInt(60));
            call("price", m, 0, random.nextInt(3) == 0 ? random.nextInt(50) : random.nextInt(2000));
            call("lot", m, 1, 20 + random.nextInt(80));
            call("lot", m, 2, 1 + random.nextInt(40));
        }
        makeText();
        while (calls < CALLS - 14 && !differs) {
            String name = random.nextBoolean() ? OFTEN[random.nextInt(OFTEN.length)]
                : CALL_NAMES[random.nextInt(CALL_NAMES.length)];
            if (busy && random.nextInt(3) > 0) {
                sellAndTakeBack();
            } else if (name.equals("TEXT")) {
                makeText();
            } else if (name.equals("LIMIT")) {
                feed(texts.limit());
                call("limit");
            } else {
                int[] a = arguments(name);
                if (random.nextInt(25) == 0 && a.length > 0) {
                    a[random.nextInt(a.length)] = odd();
                }
                call(name, a);
            }
        }
    }

    private void sellAndTakeBack() {
        call("sell", sellArguments());
        if (random.nextBoolean()) {
            call("ask", askArguments());
            call("take", Math.max(0, desk.count(3) - 1));
            int last = Math.max(0, desk.ofAsking(Math.max(0, desk.count(3) - 1), 0));
            call("size", last, 1 + (random.nextInt(3) == 0 ? models % 2 : (models + 1) % 2));
            call(random.nextBoolean() ? "sort" : "shift", random.nextBoolean() ? last : random.nextInt(models));
            call(random.nextBoolean() ? "since" : "hits", random.nextInt(3), 1 + random.nextInt(9999));
        }
    }

    private int odd() {
        int[] odd = {-1, -2, Integer.MIN_VALUE, Integer.MAX_VALUE, 0, 1, 2, 10, 60, 61, 99, 100, 200, 300, 1000, 2999, 3000,
            10000, 71999, 72000, 99999, 100000, 199999, 200000, 999999, 1000000};
        return random.nextInt(4) == 0 ? random.nextInt() : odd[random.nextInt(odd.length)];
    }

    private void makeText() {
        feed(texts.text());
        call("text", random.nextInt(2), random.nextInt(3) == 0 ? near(day()) : 0);
    }

    private void feed(String text) {
        call("end", 0);
        for (int at = 0; at < text.length(); at += 20) {
            int[] five = new int[5];
            for (int i = 0; i < 20; i++) {
                char c = at + i < text.length() ? text.charAt(at + i) : ' ';
                five[i / 4] |= c << 24 - i % 4 * 8;
            }
            call("feed", five);
        }
        call("end", text.length());
    }

    private int day() {
        return desk.count(7) / 24;
    }

    private int near(int day) {
        return Math.min(2999, Math.max(0, day + random.nextInt(7) - 4));
    }

    /** One that is there, or the one behind the last. */
    private int one(int what) {
        int n = desk.count(what);
        return random.nextInt(30) == 0 ? n : n == 0 ? 0 : random.nextInt(n);
    }

    private int sale() {
        int n = desk.count(2);
        return random.nextInt(4) == 0 || n == 0 ? one(2) : Math.max(0, n - 1 - random.nextInt(12));
    }

    private int asking() {
        int n = desk.count(3);
        return random.nextInt(4) == 0 || n == 0 ? one(3) : Math.max(0, n - 1 - random.nextInt(3));
    }

    private int[] arguments(String name) {
        switch (name) {
            case "model": return ints(random.nextInt(10), 1 + random.nextInt(99999), random.nextInt(9999));
            case "price": return ints(one(0), near(day()), random.nextInt(3000));
            case "priceOn": return ints(one(0), near(day()));
            case "lot": return ints(one(0), random.nextInt(10), 1 + random.nextInt(9));
            case "hours": return ints(1 + random.nextInt(longest));
            case "till": return ints(1 + random.nextInt(500));
            case "sell": return sellArguments();
            case "gift": return ints(sale(), random.nextInt(2));
            case "ofSale": return ints(sale(), random.nextInt(13));
            case "join": return joinArguments();
            case "keep": return ints(random.nextInt(3) == 0 ? sale() : desk.count(2));
            case "feed": return ints(random.nextInt(), random.nextInt(), random.nextInt(), random.nextInt(), random.nextInt());
            case "end": return ints(random.nextInt(1 + desk.count(9)));
            case "text": return ints(random.nextInt(2), near(day()));
            case "inForce": return ints(random.nextInt(2), sale(), near(day()));
            case "says": return ints(random.nextInt(2), sale(), saysFacts(), random.nextInt(3));
            case "ask": return askArguments();
            case "judged": return ints(asking(), near(day()), random.nextInt(2));
            case "ofAsking": return ints(asking(), random.nextInt(10));
            case "take": case "leave": return ints(asking());
            case "note": return ints(one(4));
            case "stock": return ints(one(0), random.nextInt(7));
            case "worth": return ints(sale(), random.nextInt(4));
            case "sort": case "damage": return ints(sale());
            case "sellUsed": case "shift": return ints(one(0));
            case "ofLot": return ints(one(1), random.nextInt(2), near(day()));
            case "beyond": return ints(one(1), 1 + random.nextInt(9999), near(day()));
            case "since": return ints(one(1), 1 + random.nextInt(9999));
            case "honest": return ints(random.nextInt(5), random.nextInt(3));
            case "tried": return ints(random.nextInt(4));
            case "hits": return ints(random.nextInt(6));
            case "size": return ints(sale(), random.nextInt(8) == 0 ? 0 : 1 + models % 2);
            case "brought": return ints(sale(), random.nextInt(5));
            case "carrier": return ints(random.nextInt(5), random.nextInt(2));
            case "count": return ints(random.nextInt(12));
            default: return ints();
        }
    }

    private static int[] ints(int... values) {
        return values;
    }

    private int[] sellArguments() {
        int what = 1000 * random.nextInt(4) + (random.nextInt(3) == 0 ? 0 : 1 + random.nextInt(6));
        int who = 100 * random.nextInt(4) + (random.nextInt(6) == 0 ? 60 : random.nextInt(4));
        return ints(one(1), 1 + random.nextInt(3), what, who, random.nextInt(3) == 0 ? one(4) : -1);
    }

    private int[] joinArguments() {
        int from = Math.max(0, desk.count(7) - random.nextInt(3 * longest));
        return ints(one(0), 1 + random.nextInt(3), from, Math.min(71999, from + random.nextInt(3 * longest)));
    }

    private int saysFacts() {
        return 1000 * random.nextInt(60) + 100 * random.nextInt(2) + 10 * random.nextInt(10) + random.nextInt(2);
    }

    private int span(int most, boolean narrow) {
        int a = random.nextInt(most + 1);
        int b = narrow ? a : random.nextInt(most + 1);
        return 10 * Math.min(a, b) + Math.max(a, b);
    }

    private int[] askArguments() {
        int sale = sale();
        int number = random.nextInt(12) == 0 ? 1 + random.nextInt(9) : Math.max(1, desk.ofSale(sale, 4));
        int least = random.nextInt(50);
        int days = 1000 * least + least + (random.nextInt(3) == 0 ? random.nextInt(63) : random.nextInt(4));
        int facts = 10000 * span(1, random.nextBoolean()) + 100 * span(random.nextBoolean() ? 9 : 1, random.nextInt(3) > 0)
            + span(1, random.nextBoolean());
        int grams = random.nextInt(1000);
        if (random.nextInt(3) > 0) {
            // The weight isn't asked of the desk: scrap's worth tells its hundreds only, so both desks are tried near it.
            grams = weightNear(sale);
        }
        return ints(sale, random.nextInt(3), days, facts, number, grams);
    }

    private final int[] weights = new int[20];

    private int weightNear(int sale) {
        int model = desk.ofSale(sale, 1);
        int weight = model >= 0 && model < 20 ? weights[model] : 0;
        int off = random.nextInt(3) == 0 ? weight / 50 + random.nextInt(2) : 0;
        return Math.min(199999, Math.max(0, weight + (random.nextBoolean() ? off : -off)));
    }

    private void call(String name, int... a) {
        if (differs) {
            return;
        }
        calls++;
        int got = onDesk(name, a);
        int want = onPlain(name, a);
        if (name.equals("model") && got >= 0) {
            weights[got] = a[1];
        }
        log.append(name).append(Arrays.toString(a)).append(" = ").append(got).append('\n');
        String kind = got >= 0 ? (name.equals("take") ? String.valueOf(got / 1000) : name.equals("sort") ? "way " + got : "fine")
            : got <= -100 && got != ReturnDesk.VOID ? "fault" : String.valueOf(got);
        answers.merge(name + " " + kind, 1, Integer::sum);
        if (got != want) {
            differs = true;
            log.append("due is ").append(want).append('\n');
        }
    }

    private int onDesk(String name, int[] a) {
        switch (name) {
            case "model": return desk.model(a[0], a[1], a[2]);
            case "price": return desk.price(a[0], a[1], a[2]);
            case "priceOn": return desk.priceOn(a[0], a[1]);
            case "lot": return desk.lot(a[0], a[1], a[2]);
            case "hours": return desk.hours(a[0]);
            case "till": return desk.till(a[0]);
            case "sell": return desk.sell(a[0], a[1], a[2], a[3], a[4]);
            case "gift": return desk.gift(a[0], a[1]);
            case "ofSale": return desk.ofSale(a[0], a[1]);
            case "join": return desk.join(a[0], a[1], a[2], a[3]);
            case "keep": return desk.keep(a[0]);
            case "feed": return desk.feed(a[0], a[1], a[2], a[3], a[4]);
            case "end": return desk.end(a[0]);
            case "text": return desk.text(a[0], a[1]);
            case "inForce": return desk.inForce(a[0], a[1], a[2]);
            case "says": return desk.says(a[0], a[1], a[2], a[3]);
            case "ask": return desk.ask(a[0], a[1], a[2], a[3], a[4], a[5]);
            case "judged": return desk.judged(a[0], a[1], a[2]);
            case "ofAsking": return desk.ofAsking(a[0], a[1]);
            case "take": return desk.take(a[0]);
            case "leave": return desk.leave(a[0]);
            case "note": return desk.note(a[0]);
            case "stock": return desk.stock(a[0], a[1]);
            case "worth": return desk.worth(a[0], a[1]);
            case "sort": return desk.sort(a[0]);
            case "sellUsed": return desk.sellUsed(a[0]);
            case "ofLot": return desk.ofLot(a[0], a[1], a[2]);
            case "beyond": return desk.beyond(a[0], a[1], a[2]);
            case "since": return desk.since(a[0], a[1]);
            case "honest": return desk.honest(a[0], a[1]);
            case "limit": return desk.limit();
            case "tried": return desk.tried(a[0]);
            case "hits": return desk.hits(a[0]);
            case "size": return desk.size(a[0], a[1]);
            case "shift": return desk.shift(a[0]);
            case "brought": return desk.brought(a[0], a[1]);
            case "damage": return desk.damage(a[0]);
            case "carrier": return desk.carrier(a[0], a[1]);
            default: return desk.count(a[0]);
        }
    }

    private int onPlain(String name, int[] a) {
        switch (name) {
            case "model": return plain.model(a[0], a[1], a[2]);
            case "price": return plain.price(a[0], a[1], a[2]);
            case "priceOn": return plain.priceOn(a[0], a[1]);
            case "lot": return plain.lot(a[0], a[1], a[2]);
            case "hours": return plain.hours(a[0]);
            case "till": return plain.till(a[0]);
            case "sell": return plain.sell(a[0], a[1], a[2], a[3], a[4]);
            case "gift": return plain.gift(a[0], a[1]);
            case "ofSale": return plain.ofSale(a[0], a[1]);
            case "join": return plain.join(a[0], a[1], a[2], a[3]);
            case "keep": return plain.keep(a[0]);
            case "feed": return plain.feed(a[0], a[1], a[2], a[3], a[4]);
            case "end": return plain.end(a[0]);
            case "text": return plain.text(a[0], a[1]);
            case "inForce": return plain.inForce(a[0], a[1], a[2]);
            case "says": return plain.says(a[0], a[1], a[2], a[3]);
            case "ask": return plain.ask(a[0], a[1], a[2], a[3], a[4], a[5]);
            case "judged": return plain.judged(a[0], a[1], a[2]);
            case "ofAsking": return plain.ofAsking(a[0], a[1]);
            case "take": return plain.take(a[0]);
            case "leave": return plain.leave(a[0]);
            case "note": return plain.note(a[0]);
            case "stock": return plain.stock(a[0], a[1]);
            case "worth": return plain.worth(a[0], a[1]);
            case "sort": return plain.sort(a[0]);
            case "sellUsed": return plain.sellUsed(a[0]);
            case "ofLot": return plain.ofLot(a[0], a[1], a[2]);
            case "beyond": return plain.beyond(a[0], a[1], a[2]);
            case "since": return plain.since(a[0], a[1]);
            case "honest": return plain.honest(a[0], a[1]);
            case "limit": return plain.limit();
            case "tried": return plain.tried(a[0]);
            case "hits": return plain.hits(a[0]);
            case "size": return plain.size(a[0], a[1]);
            case "shift": return plain.shift(a[0]);
            case "brought": return plain.brought(a[0], a[1]);
            case "damage": return plain.damage(a[0]);
            case "carrier": return plain.carrier(a[0], a[1]);
            default: return plain.count(a[0]);
        }
    }
}
