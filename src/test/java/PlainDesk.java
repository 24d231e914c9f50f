import java.math.BigInteger;
import java.util.ArrayList;
import java.util.HashMap;
import java.util.List;
import java.util.Map;
import java.util.function.Predicate;

/** A second desk, written from the document with the Java library, slow and plain: what the program is held against. */
final class PlainDesk {
    private static final int BAD = -1, NOT = -2, FULL = -3, BIG = -4, VOID = -2000000000;

    private static final class Model {
        int kind, weight, mend, fresh, scrapped, mended;
        List<int[]> prices = new ArrayList<>();
        List<Integer> used = new ArrayList<>();
    }

    private static final class Lot {
        int model, left;
    }

    private static final class Sale {
        int lot, model, number, size, order, card, buyer, hour, price, gift, state, told;
        int back = -1, bad = -1, carrier = -1, damage = -1, asking = -1;
        boolean heap;
    }

    private static final class Text {
        int side, from, made;
        String words;
    }

    private static final class Asking {
        int sale, proof, day, state, paid, note = -1;
        int[] least = new int[4], most = new int[4];
        boolean swapped, light;
    }

    private final List<Model> models = new ArrayList<>();
    private final List<Lot> lots = new ArrayList<>();
    private final List<Sale> sales = new ArrayList<>();
    private final List<Text> texts = new ArrayList<>();
    private final List<Asking> askings = new ArrayList<>();
    private final List<Integer> notes = new ArrayList<>();
    private final Map<Integer, Integer> told = new HashMap<>();
    private String tape = "";
    private String limit;
    private int hour, till, paid, mending;

    private int day() {
        return hour / 24;
    }

    private static boolean out(int v, int least, int most) {
        return v < least || v > most;
    }

    private static boolean none(int i, List<?> of) {
        return i < 0 || i >= of.size();
    }

    private long many(Predicate<Sale> which) {
        return sales.stream().filter(which).count();
    }

    int model(int kind, int weight, int mend) {
        if (out(kind, 0, 9) || out(weight, 1, 99999) || out(mend, 0, 9999)) {
            return BAD;
        }
        if (models.size() == 20) {
            return FULL;
        }
        Model m = new Model();
        m.kind = kind;
        m.weight = weight;
        m.mend = mend;
        models.add(m);
        return models.size() - 1;
    }

    int price(int model, int day, int v) {
        if (none(model, models) || out(day, 0, 2999) || out(v, 0, 99999)) {
            return BAD;
        }
        List<int[]> prices = models.get(model).prices;
        if (prices.size() == 20) {
            return FULL;
        }
        prices.add(new int[] {day, v});
        return prices.size();
    }

    int priceOn(int model, int day) {
        if (none(model, models) || out(day, 0, 2999)) {
            return BAD;
        }
        for (int d = day; d >= 0; d--) {
            List<int[]> prices = models.get(model).prices;
            for (int i = prices.size() - 1; i >= 0; i--) {
                if (prices.get(i)[0] == d) {
                    return prices.get(i)[1];
                }
            }
        }
        return 0;
    }

    int lot(int model, int maker, int n) {
        if (none(model, models) || out(maker, 0, 9) || out(n, 1, 99)) {
            return BAD;
        }
        if (lots.size() == 60) {
            return FULL;
        }
        Lot l = new Lot();
        l.model = model;
        l.left = n;
        lots.add(l);
        return lots.size() - 1;
    }

    int hours(int n) {
        if (out(n, 1, 2400) || hour + n > 71999) {
            return BAD;
        }
        return hour += n;
    }

    int till(int coins) {
        return out(coins, 1, 999999) ? BAD : (till += coins);
    }

    int sell(int lot, int number, int what, int who, int note) {
        boolean bad = none(lot, lots) || out(number, 1, 999999) || what < 0 || out(what / 1000, 0, 20)
            || who < 0 || out(who / 100, 0, 9999) || out(who % 100, 0, 60) || note != -1 && none(note, notes);
        if (bad) {
            return BAD;
        }
        Lot l = lots.get(lot);
        if (l.left == 0) {
            return NOT;
        }
        if (sales.size() == 300) {
            return FULL;
        }
        Sale s = new Sale();
        s.lot = lot;
        s.model = l.model;
        s.number = number;
        s.size = what / 1000;
        s.order = what % 1000;
        s.card = who / 100;
        s.buyer = who % 100;
        s.hour = hour;
        s.price = priceOn(l.model, day());
        int byNote = note < 0 ? 0 : Math.min(notes.get(note), s.price);
        if (note >= 0) {
            notes.set(note, notes.get(note) - byNote);
        }
        till += s.price - byNote;
        l.left--;
        sales.add(s);
        return sales.size() - 1;
    }

    int gift(int sale, int is) {
        if (none(sale, sales) || out(is, 0, 1)) {
            return BAD;
        }
        int was = sales.get(sale).gift;
        sales.get(sale).gift = is;
        return was;
    }

    private int threes(Sale s) {
        return s.order == 0 ? 1 : (int) many(o -> o.order == s.order && o.model == s.model);
    }

    int ofSale(int sale, int what) {
        if (none(sale, sales) || out(what, 0, 12)) {
            return VOID;
        }
        Sale s = sales.get(sale);
        return new int[] {s.state, s.model, s.lot, s.size, s.number, s.card, s.buyer, s.order, s.hour, s.price,
            s.gift, s.back, threes(s)}[what];
    }

    int join(int model, int card, int from, int to) {
        if (none(model, models) || out(card, 1, 9999) || out(from, 0, 71999) || out(to, from, 71999)) {
            return BAD;
        }
        List<Integer> found = new ArrayList<>();
        for (int i = 0; i < sales.size(); i++) {
            Sale s = sales.get(i);
            if (s.state == 0 && s.model == model && s.card == card && s.hour >= from && s.hour <= to) {
                found.add(i);
            }
        }
        return found.size() == 1 ? found.get(0) : -10 - found.size();
    }

    int keep(int sale) {
        if (none(sale, sales)) {
            return BAD;
        }
        if (sales.get(sale).state != 0) {
            return NOT;
        }
        sales.get(sale).state = 3;
        return 1;
    }

    int feed(int... five) {
        if (tape.length() + 20 > 200) {
            return FULL;
        }
        StringBuilder more = new StringBuilder(tape);
        for (int v : five) {
            byte[] bytes = java.nio.ByteBuffer.allocate(4).putInt(v).array();
            for (byte b : bytes) {
                more.append((char) Byte.toUnsignedInt(b));
            }
        }
        tape = more.toString();
        return tape.length();
    }

    int end(int n) {
        if (out(n, 0, tape.length())) {
            return BAD;
        }
        tape = tape.substring(0, n);
        return n;
    }

    int text(int side, int from) {
        if (out(side, 0, 1) || out(from, 0, 2999)) {
            return BAD;
        }
        if (texts.size() == 20) {
            return FULL;
        }
        Text t = new Text();
        t.words = tape;
        t.side = side;
        t.from = from;
        t.made = day();
        tape = "";
        int fault = PlainText.fault(t.words, false);
        if (fault >= 0) {
            return -100 - fault;
        }
        texts.add(t);
        return texts.size() - 1;
    }

    int inForce(int side, int sale, int k) {
        if (out(side, 0, 1) || none(sale, sales) || out(k, 0, 2999)) {
            return BAD;
        }
        int found = NOT;
        for (int i = 0; i < texts.size(); i++) {
            Text t = texts.get(i);
            if (t.side == side && t.made <= k && t.from <= sales.get(sale).hour / 24) {
                found = i;
            }
        }
        return found;
    }

    private int say(int side, int sale, int[] facts, int proof, int asOf, int k) {
        int text = inForce(side, sale, k);
        if (text < 0) {
            return 0;
        }
        Sale s = sales.get(sale);
        Map<String, Integer> names = new HashMap<>();
        names.put("days", facts[0]);
        names.put("fault", facts[1]);
        names.put("worn", facts[2]);
        names.put("opened", facts[3]);
        names.put("proof", proof);
        names.put("gift", s.gift);
        names.put("kind", models.get(s.model).kind);
        names.put("price", s.price);
        names.put("size", s.size);
        names.put("month", s.hour / 24 / 30 % 12);
        names.put("threes", threes(s));
        names.put("times", s.buyer == 60 ? 0
            : (int) many(o -> o.buyer == s.buyer && o.state == 2 && o.back <= asOf && o.back > asOf - 360));
        return PlainText.outOf(texts.get(text).words, names);
    }

    int says(int side, int sale, int facts, int proof) {
        if (out(side, 0, 1) || none(sale, sales) || facts < 0 || facts > 999999 || out(proof, 0, 2)) {
            return BAD;
        }
        int[] four = {facts / 1000, facts / 100 % 10, facts / 10 % 10, facts % 10};
        return four[1] > 1 || four[3] > 1 ? BAD : say(side, sale, four, proof, day(), day());
    }

    int ask(int sale, int proof, int days, int facts, int brought, int grams) {
        if (none(sale, sales) || out(proof, 0, 2) || out(days, 0, 999999) || out(facts, 0, 999999)
            || out(brought, 1, 999999) || out(grams, 0, 199999)) {
            return BAD;
        }
        String f = String.format("%06d", facts);
        int[] most = {999, 1, 9, 1};
        Asking a = new Asking();
        a.least[0] = days / 1000;
        a.most[0] = days % 1000;
        for (int i = 1; i < 4; i++) {
            a.least[i] = f.charAt(2 * i - 2) - '0';
            a.most[i] = f.charAt(2 * i - 1) - '0';
        }
        for (int i = 0; i < 4; i++) {
            if (a.least[i] > a.most[i] || a.most[i] > most[i]) {
                return BAD;
            }
        }
        if (a.most[0] - a.least[0] > 60) {
            return BAD;
        }
        Sale s = sales.get(sale);
        if (s.state != 0) {
            return NOT;
        }
        if (askings.size() == 200) {
            return FULL;
        }
        if (proof > 0) {
            a.least[0] = a.most[0] = day() - s.hour / 24;
        }
        int weight = models.get(s.model).weight;
        a.sale = sale;
        a.proof = proof;
        a.day = day();
        a.swapped = brought != s.number;
        a.light = grams < weight - weight / 50 || grams > weight + weight / 50;
        s.state = 1;
        askings.add(a);
        return askings.size() - 1;
    }

    private static int worthFor(int price, int said) {
        return price * (said % 1000) * new int[] {0, 6, 8, 9, 10}[said / 1000] / 1000;
    }

    /** Best, its worth, its side, worst, its worth. */
    private int[] judge(int asking, int k) {
        Asking a = askings.get(asking);
        int price = sales.get(a.sale).price;
        int[] result = null;
        for (int d = a.least[0]; d <= a.most[0]; d++) {
            for (int f = a.least[1]; f <= a.most[1]; f++) {
                for (int w = a.least[2]; w <= a.most[2]; w++) {
                    for (int o = a.least[3]; o <= a.most[3]; o++) {
                        int[] facts = {d, f, w, o};
                        int law = say(0, a.sale, facts, a.proof, a.day, k);
                        int word = say(1, a.sale, facts, a.proof, a.day, k);
                        int side = worthFor(price, law) >= worthFor(price, word) ? 0 : 1;
                        int said = side == 0 ? law : word;
                        int worth = worthFor(price, said);
                        if (result == null) {
                            result = new int[] {said, worth, side, said, worth};
                        }
                        if (worth > result[1]) {
                            result[0] = said;
                            result[1] = worth;
                            result[2] = side;
                        }
                        if (worth < result[4]) {
                            result[3] = said;
                            result[4] = worth;
                        }
                    }
                }
            }
        }
        return result;
    }

    int judged(int asking, int k, int which) {
        if (none(asking, askings) || out(k, 0, 2999) || out(which, 0, 1)) {
            return BAD;
        }
        return judge(asking, k)[3 * which];
    }

    int ofAsking(int asking, int what) {
        if (none(asking, askings) || out(what, 0, 9)) {
            return VOID;
        }
        Asking a = askings.get(asking);
        int[] j = judge(asking, a.day);
        return new int[] {a.sale, a.proof, a.day, j[1] == j[4] ? 0 : 1, a.swapped ? 1 : 0, a.light ? 1 : 0, a.state,
            a.paid, a.note, j[2]}[what];
    }

    int take(int asking) {
        if (none(asking, askings)) {
            return BAD;
        }
        Asking a = askings.get(asking);
        Sale s = sales.get(a.sale);
        Model m = models.get(s.model);
        int best = judge(asking, a.day)[0];
        String way = new String[] {"no", "mend", "swap", "note", "refund"}[best / 1000];
        int coins = s.price * (best % 1000) / 100;
        if (a.state != 0 || a.swapped || way.equals("no")) {
            return NOT;
        }
        if (way.equals("refund") && (a.proof == 0 || s.gift == 1)) {
            way = "note";
        }
        if (way.equals("swap") && stock(s.model, 0) == 0) {
            way = "note";
        }
        if (way.equals("refund") && till < coins || way.equals("mend") && till < m.mend) {
            return NOT;
        }
        if (way.equals("note") && notes.size() == 200) {
            return FULL;
        }
        a.state = 1;
        if (a.least[1] == 1 && s.bad < 0) {
            s.bad = day();
        }
        if (way.equals("mend")) {
            till -= m.mend;
            mending += m.mend;
            m.mended++;
            s.state = 0;
            return best;
        }
        if (way.equals("refund")) {
            till -= coins;
            paid += coins;
            a.paid = coins;
        } else if (way.equals("note")) {
            notes.add(coins);
            a.paid = coins;
            a.note = notes.size() - 1;
        } else {
            Lot from = lots.stream().filter(l -> l.model == s.model && l.left > 0).findFirst().orElse(null);
            if (from == null) {
                m.fresh--;
            } else {
                from.left--;
            }
        }
        s.state = 2;
        s.back = day();
        s.asking = asking;
        s.heap = true;
        return best;
    }

    int leave(int asking) {
        if (none(asking, askings)) {
            return BAD;
        }
        if (askings.get(asking).state != 0) {
            return NOT;
        }
        askings.get(asking).state = 2;
        sales.get(askings.get(asking).sale).state = 0;
        return 1;
    }

    int note(int note) {
        return none(note, notes) ? BAD : notes.get(note);
    }

    int stock(int model, int what) {
        if (none(model, models) || out(what, 0, 6)) {
            return BAD;
        }
        Model m = models.get(model);
        int left = lots.stream().filter(l -> l.model == model).mapToInt(l -> l.left).sum();
        return new int[] {left + m.fresh, m.used.size(), (int) many(s -> s.model == model && s.heap), m.scrapped,
            (int) many(s -> s.model == model), (int) many(s -> s.model == model && s.state == 2), m.mended}[what];
    }

    int worth(int sale, int way) {
        if (none(sale, sales) || out(way, 0, 3) || !sales.get(sale).heap) {
            return VOID;
        }
        Sale s = sales.get(sale);
        Asking a = askings.get(s.asking);
        Model m = models.get(s.model);
        boolean fault = a.least[1] == 1 || a.light;
        int price = priceOn(s.model, day());
        int used = price * (90 - 8 * a.most[2]) / 100;
        if (way == 0) {
            return a.most[2] == 0 && a.most[3] == 0 && !fault ? price : VOID;
        }
        return way == 1 ? fault ? VOID : used : way == 2 ? used - m.mend : m.weight / 100;
    }

    int sort(int sale) {
        if (none(sale, sales)) {
            return BAD;
        }
        Sale s = sales.get(sale);
        if (!s.heap) {
            return NOT;
        }
        int way = 0;
        int most = Integer.MIN_VALUE;
        for (int i = 0; i < 4; i++) {
            if (worth(sale, i) > most) {
                way = i;
                most = worth(sale, i);
            }
        }
        Model m = models.get(s.model);
        int worn = askings.get(s.asking).most[2];
        if (way == 2 && till < m.mend) {
            return NOT;
        }
        s.heap = false;
        if (way == 0) {
            m.fresh++;
        } else if (way == 3) {
            m.scrapped++;
            till += most;
        } else {
            m.used.add(worn);
        }
        if (way == 2) {
            till -= m.mend;
            mending += m.mend;
            m.mended++;
        }
        return way;
    }

    int sellUsed(int model) {
        if (none(model, models)) {
            return BAD;
        }
        Model m = models.get(model);
        if (m.used.isEmpty()) {
            return NOT;
        }
        int coins = priceOn(model, day()) * (90 - 8 * m.used.remove(0)) / 100;
        till += coins;
        return coins;
    }

    int ofLot(int lot, int what, int k) {
        if (none(lot, lots) || out(what, 0, 1) || out(k, 0, 2999)) {
            return BAD;
        }
        return (int) many(s -> s.lot == lot && (what == 0 ? s.hour / 24 <= k : s.bad >= 0 && s.bad <= k));
    }

    private static BigInteger choose(int n, int k) {
        BigInteger ways = k < 0 || k > n ? BigInteger.ZERO : BigInteger.ONE;
        for (int i = 1; i <= k && k <= n; i++) {
            ways = ways.multiply(BigInteger.valueOf(n - k + i)).divide(BigInteger.valueOf(i));
        }
        return ways;
    }

    int beyond(int lot, int p, int k) {
        if (none(lot, lots) || out(p, 1, 9999) || out(k, 0, 2999)) {
            return BAD;
        }
        int model = lots.get(lot).model;
        int all = (int) many(s -> s.model == model && s.hour / 24 <= k);
        int allBad = (int) many(s -> s.model == model && s.bad >= 0 && s.bad <= k);
        if (all > 60) {
            return BIG;
        }
        int own = ofLot(lot, 0, k);
        int ownBad = ofLot(lot, 1, k);
        BigInteger few = BigInteger.ZERO;
        for (int b = ownBad; b <= own; b++) {
            few = few.add(choose(allBad, b).multiply(choose(all - allBad, own - b)));
        }
        BigInteger share = few.multiply(BigInteger.valueOf(10000));
        return share.compareTo(choose(all, own).multiply(BigInteger.valueOf(p))) < 0 ? 1 : 0;
    }

    int since(int lot, int p) {
        for (int k = 0; k <= day(); k++) {
            int is = beyond(lot, p, k);
            if (is != 0) {
                return is == 1 ? k : is;
            }
        }
        return NOT;
    }

    int honest(int buyer, int is) {
        if (out(buyer, 0, 59) || out(is, 0, 2)) {
            return BAD;
        }
        Integer was = told.put(buyer, is);
        return was == null ? 2 : was;
    }

    int limit() {
        String words = tape;
        tape = "";
        int fault = PlainText.fault(words, true);
        if (fault >= 0) {
            return -100 - fault;
        }
        limit = words;
        return 1;
    }

    int tried(int which) {
        if (out(which, 0, 3)) {
            return BAD;
        }
        if (limit == null) {
            return NOT;
        }
        int found = 0;
        for (int b = 0; b < 60; b++) {
            int buyer = b;
            int group = new int[] {1, 0, 2}[told.getOrDefault(b, 2)];
            if (many(s -> s.buyer == buyer) > 0 && hits(b) == 1 && (which == 3 || which == group)) {
                found++;
            }
        }
        return found;
    }

    int hits(int buyer) {
        if (out(buyer, 0, 59)) {
            return BAD;
        }
        if (limit == null) {
            return NOT;
        }
        int bought = (int) many(s -> s.buyer == buyer);
        int back = (int) many(s -> s.buyer == buyer && s.state == 2);
        Map<String, Integer> names = new HashMap<>();
        names.put("bought", bought);
        names.put("back", back);
        names.put("share", bought == 0 ? 0 : 100 * back / bought);
        names.put("spent", sales.stream().filter(s -> s.buyer == buyer).mapToInt(s -> s.price).sum());
        names.put("lately", (int) many(s -> s.buyer == buyer && s.state == 2 && day() - s.back < 30));
        return PlainText.value(limit, names) != 0 ? 1 : 0;
    }

    int size(int sale, int is) {
        if (none(sale, sales) || out(is, 0, 2)) {
            return BAD;
        }
        Sale s = sales.get(sale);
        if (s.state != 2) {
            return NOT;
        }
        int was = s.told;
        s.told = is;
        return was;
    }

    int shift(int model) {
        if (none(model, models)) {
            return -9;
        }
        long more = 0;
        for (Sale s : sales) {
            boolean tried = s.order != 0
                && many(o -> o.order == s.order && o.model == s.model && o.size != s.size) > 0;
            if (s.model == model && s.state == 2 && tried) {
                more += s.told == 1 ? 1 : s.told == 2 ? -1 : 0;
            }
        }
        return more >= 3 ? 1 : more <= -3 ? -1 : 0;
    }

    int brought(int sale, int carrier) {
        if (none(sale, sales) || out(carrier, 0, 4)) {
            return BAD;
        }
        if (sales.get(sale).carrier >= 0) {
            return NOT;
        }
        sales.get(sale).carrier = carrier;
        return 1;
    }

    int damage(int sale) {
        if (none(sale, sales)) {
            return BAD;
        }
        Sale s = sales.get(sale);
        if (s.carrier < 0 || s.damage >= 0) {
            return NOT;
        }
        return s.damage = day() - s.hour / 24 <= 3 ? 1 : 0;
    }

    int carrier(int carrier, int what) {
        if (out(carrier, 0, 4) || out(what, 0, 1)) {
            return BAD;
        }
        return (int) many(s -> s.carrier == carrier && (what == 0 || s.damage == 1));
    }

    int count(int what) {
        if (out(what, 0, 11)) {
            return BAD;
        }
        int onNotes = notes.stream().mapToInt(Integer::intValue).sum();
        return new int[] {models.size(), lots.size(), sales.size(), askings.size(), notes.size(), till, onNotes, hour,
            texts.size(), tape.length(), paid, mending}[what];
    }
}
