/** The desk of a shop that takes things back; ../shared/DOC.md says what each call promises. */
public final class ReturnDesk {
    public static final int BAD = -1, NOT = -2, FULL = -3, BIG = -4, VOID = -2000000000;

    private static final int LAST_DAY = 2999, LAST_HOUR = 71999, HOURS_A_DAY = 24;
    /** Later than every DAY, so that "by DAY k" is one comparison for what never came to be. */
    private static final int NEVER = LAST_DAY + 1;

    private static final int MOST_MODELS = 20, MOST_LOTS = 60, MOST_SALES = 300, MOST_ASKINGS = 200;
    private static final int MOST_NOTES = 200, MOST_TEXTS = 20, MOST_PRICES = 20, MOST_BYTES = 200;
    private static final int MOST_NUMBER = 999999, MOST_PRICE = 99999, MOST_GRAMS = 199999;
    private static final int BUYERS = 60, CARRIERS = 5, MOST_CARD = 9999;
    private static final int BYTES_A_FEED = 20, MOST_SPAN = 60, MOST_DEALT = 60;

    private static final int LAW = 0, WORD = 1;
    private static final int IS_OUT = 0, IS_ASKED = 1, IS_BACK = 2, IS_KEPT = 3;
    private static final int WAITS = 0, IS_TAKEN = 1, IS_LEFT = 2;
    private static final int NOT_TOLD = 2;
    private static final int NOT_DAMAGED = -1, BUYERS_OWN = 0, CARRIERS_OWN = 1;
    private static final int AS_NEW = 0, AS_USED = 1, AS_MENDED = 2, AS_SCRAP = 3;

    /** What a TEXT gives; note and refund come last because only they have an E. */
    private static final int GIVES_NO = 0, GIVES_MEND = 1, GIVES_SWAP = 2, GIVES_NOTE = 3, GIVES_REFUND = 4;
    /** What an OUT is worth to the buyer, by its number, in tenths of its coins. */
    private static final int[] TENTHS = {0, 6, 8, 9, 10};

    private static final String TEXT_NAMES =
        "days fault worn opened proof gift kind price size month threes times";
    private static final int DAYS = 0, FAULT = 1, WORN = 2, OPENED = 3, PROOF = 4, GIFT = 5, KIND = 6;
    private static final int PRICE = 7, SIZE = 8, MONTH = 9, THREES = 10, TIMES = 11, MOST_NAMES = 12;
    private static final String LIMIT_NAMES = "bought back share spent lately";
    private static final int BOUGHT = 0, CAME_BACK = 1, SHARE = 2, SPENT = 3, LATELY = 4;

    /** Cells of a TEXT's code below 0; signs are told by their own number, negated. */
    private static final int NOT_CELL = -1, AND_CELL = -2, OR_CELL = -3;
    /** GIVE_CELL less an OUT; SKIP_CELL less the place to go on at. */
    private static final int GIVE_CELL = -500, SKIP_CELL = -1000;
    /** Numbers of a TEXT stay below this, its NAMES start here. */
    private static final int NAME_CELL = 100000;

    private final Model[] models = new Model[MOST_MODELS];
    private final Lot[] lots = new Lot[MOST_LOTS];
    private final Sale[] sales = new Sale[MOST_SALES];
    private final Asking[] askings = new Asking[MOST_ASKINGS];
    private final Text[] texts = new Text[MOST_TEXTS];
    private final Purse purse = new Purse();
    private final Reader reader = new Reader();
    private final Tape tape = reader.tape;
    private final Machine machine = new Machine();
    private final Judgement judgement = new Judgement();
    private final int[] honesty = new int[BUYERS];
    private int[] limitCode;
    private int modelCount;
    private int lotCount;
    private int saleCount;
    private int askingCount;
    private int textCount;
    private int hour;

    public ReturnDesk() {
        for (int i = 0; i < honesty.length; i++) {
            honesty[i] = NOT_TOLD;
        }
    }

    // ---- models, lots, time

    public int model(int kind, int weight, int mend) {
        if (!within(kind, 0, 9) || !within(weight, 1, 99999) || !within(mend, 0, 9999)) {
            return BAD;
        }
        if (modelCount >= models.length) {
            return FULL;
        }
        models[modelCount] = new Model(modelCount, kind, weight, mend);
        modelCount++;
        return modelCount - 1;
    }

    public int price(int model, int day, int v) {
        Model m = modelAt(model);
        if (m == null || !isDay(day) || !within(v, 0, MOST_PRICE)) {
            return BAD;
        }
        return m.tellPrice(day, v) ? m.priceCount : FULL;
    }

    public int priceOn(int model, int day) {
        Model m = modelAt(model);
        return m == null || !isDay(day) ? BAD : m.priceFor(day);
    }

    public int lot(int model, int maker, int n) {
        Model m = modelAt(model);
        if (m == null || !within(maker, 0, 9) || !within(n, 1, 99)) {
            return BAD;
        }
        if (lotCount >= lots.length) {
            return FULL;
        }
        lots[lotCount] = new Lot(lotCount, m, n);
        lotCount++;
        return lotCount - 1;
    }

    public int hours(int n) {
        if (!within(n, 1, 2400) || n > LAST_HOUR - hour) {
            return BAD;
        }
        hour += n;
        return hour;
    }

    public int till(int coins) {
        if (!within(coins, 1, 999999)) {
            return BAD;
        }
        purse.inTill += coins;
        return purse.inTill;
    }

    // ---- sales

    public int sell(int lot, int number, int what, int who, int note) {
        Lot l = lotAt(lot);
        if (l == null || !within(number, 1, MOST_NUMBER) || !within(what, 0, 20999)) {
            return BAD;
        }
        if (!within(who, 0, 100 * MOST_CARD + 99) || who % 100 > BUYERS) {
            return BAD;
        }
        if (note != -1 && !purse.hasNote(note)) {
            return BAD;
        }
        if (l.left <= 0) {
            return NOT;
        }
        if (saleCount >= sales.length) {
            return FULL;
        }
        l.left--;
        Sale s = new Sale(saleCount, l, number, what, who, hour, l.model.priceFor(today()));
        purse.inTill += s.price - purse.payByNote(note, s.price);
        sales[saleCount] = s;
        saleCount++;
        return saleCount - 1;
    }

    public int gift(int sale, int is) {
        Sale s = saleAt(sale);
        if (s == null || !within(is, 0, 1)) {
            return BAD;
        }
        int was = s.gift;
        s.gift = is;
        return was;
    }

    public int ofSale(int sale, int what) {
        Sale s = saleAt(sale);
        if (s == null) {
            return VOID;
        }
        switch (what) {
            case 0: return s.state;
            case 1: return s.model.number;
            case 2: return s.lot.number;
            case 3: return s.size;
            case 4: return s.number;
            case 5: return s.card;
            case 6: return s.buyer;
            case 7: return s.order;
            case 8: return s.hour;
            case 9: return s.price;
            case 10: return s.gift;
            case 11: return s.backDay == NEVER ? -1 : s.backDay;
            case 12: return threesOf(s);
            default: return VOID;
        }
    }

    public int join(int model, int card, int from, int to) {
        Model m = modelAt(model);
        if (m == null || !within(card, 1, MOST_CARD) || !isSpan(from, to, LAST_HOUR)) {
            return BAD;
        }
        int found = 0;
        int last = 0;
        for (int i = 0; i < saleCount; i++) {
            Sale s = sales[i];
            if (s.model == m && s.card == card && s.state == IS_OUT && within(s.hour, from, to)) {
                found++;
                last = i;
            }
        }
        return found == 1 ? last : -10 - found;
    }

    public int keep(int sale) {
        Sale s = saleAt(sale);
        if (s == null) {
            return BAD;
        }
        if (s.state != IS_OUT) {
            return NOT;
        }
        s.state = IS_KEPT;
        return 1;
    }

    // ---- texts

    public int feed(int a, int b, int c, int d, int e) {
        if (tape.length > MOST_BYTES - BYTES_A_FEED) {
            return FULL;
        }
        tape.append(a);
        tape.append(b);
        tape.append(c);
        tape.append(d);
        tape.append(e);
        return tape.length;
    }

    public int end(int n) {
        if (!within(n, 0, tape.length)) {
            return BAD;
        }
        tape.length = n;
        return n;
    }

    public int text(int side, int from) {
        if (!within(side, LAW, WORD) || !isDay(from)) {
            return BAD;
        }
        if (textCount >= texts.length) {
            return FULL;
        }
        boolean good = reader.readText();
        tape.length = 0;
        if (!good) {
            return -100 - reader.fault();
        }
        texts[textCount] = new Text(textCount, side, from, today(), reader.written());
        textCount++;
        return textCount - 1;
    }

    public int inForce(int side, int sale, int k) {
        Sale s = saleAt(sale);
        if (!within(side, LAW, WORD) || s == null || !isDay(k)) {
            return BAD;
        }
        Text t = textFor(side, s, k);
        return t == null ? NOT : t.number;
    }

    public int says(int side, int sale, int facts, int proof) {
        Sale s = saleAt(sale);
        if (!within(side, LAW, WORD) || s == null || !within(proof, 0, 2) || !within(facts, 0, 999999)) {
            return BAD;
        }
        int fault = digit(facts, 100);
        int opened = digit(facts, 1);
        if (fault > 1 || opened > 1) {
            return BAD;
        }
        tellSale(s, proof, today());
        tellFacts(facts / 1000, fault, digit(facts, 10), opened);
        return outOf(textFor(side, s, today()));
    }

    // ---- askings

    public int ask(int sale, int proof, int days, int facts, int brought, int grams) {
        Sale s = saleAt(sale);
        if (s == null || !within(proof, 0, 2) || !areDays(days) || !areFacts(facts)) {
            return BAD;
        }
        if (!within(brought, 1, MOST_NUMBER) || !within(grams, 0, MOST_GRAMS)) {
            return BAD;
        }
        if (s.state != IS_OUT) {
            return NOT;
        }
        if (askingCount >= askings.length) {
            return FULL;
        }
        askings[askingCount] = new Asking(s, proof, today(), days, facts, brought, grams);
        askingCount++;
        s.state = IS_ASKED;
        return askingCount - 1;
    }

    public int judged(int asking, int k, int which) {
        Asking a = askingAt(asking);
        if (a == null || !isDay(k) || !within(which, 0, 1)) {
            return BAD;
        }
        judge(a, k);
        return which == 0 ? judgement.best : judgement.worst;
    }

    public int ofAsking(int asking, int what) {
        Asking a = askingAt(asking);
        if (a == null || !within(what, 0, 9)) {
            return VOID;
        }
        if (what == 3 || what == 9) {
            judge(a, a.day);
        }
        switch (what) {
            case 0: return a.sale.receipt;
            case 1: return a.proof;
            case 2: return a.day;
            case 3: return asBit(judgement.bestWorth != judgement.worstWorth);
            case 4: return asBit(a.swapped);
            case 5: return asBit(a.light);
            case 6: return a.state;
            case 7: return a.paid;
            case 8: return a.note;
            default: return judgement.bestSide;
        }
    }

    public int take(int asking) {
        Asking a = askingAt(asking);
        if (a == null) {
            return BAD;
        }
        if (a.state != WAITS || a.swapped) {
            return NOT;
        }
        judge(a, a.day);
        int best = judgement.best;
        int done = carryOut(a, best / 1000, best % 1000);
        if (done < 0) {
            return done;
        }
        a.state = IS_TAKEN;
        if (a.leastFault == 1) {
            a.sale.badDay = Math.min(a.sale.badDay, today());
        }
        return best;
    }

    public int leave(int asking) {
        Asking a = askingAt(asking);
        if (a == null) {
            return BAD;
        }
        if (a.state != WAITS) {
            return NOT;
        }
        a.state = IS_LEFT;
        a.sale.state = IS_OUT;
        return 1;
    }

    public int note(int note) {
        return purse.hasNote(note) ? purse.onNotes[note] : BAD;
    }

    // ---- stock

    public int stock(int model, int what) {
        Model m = modelAt(model);
        if (m == null) {
            return BAD;
        }
        switch (what) {
            case 0: return m.sortedNew + leftInLots(m);
            case 1: return m.usedCount;
            case 2: return salesOf(m, true, true);
            case 3: return m.scrapped;
            case 4: return salesOf(m, false, false);
            case 5: return salesOf(m, true, false);
            case 6: return m.mended;
            default: return BAD;
        }
    }

    public int worth(int sale, int way) {
        Sale s = saleAt(sale);
        return s == null || !s.inHeap ? VOID : worthNow(s, way);
    }

    public int sort(int sale) {
        Sale s = saleAt(sale);
        if (s == null) {
            return BAD;
        }
        if (!s.inHeap) {
            return NOT;
        }
        int way = bestWay(s);
        if (way == AS_MENDED && !purse.spendOnMending(s.model.mend)) {
            return NOT;
        }
        s.inHeap = false;
        s.model.receive(s, way);
        if (way == AS_SCRAP) {
            purse.inTill += s.model.scrapWorth();
        }
        return way;
    }

    public int sellUsed(int model) {
        Model m = modelAt(model);
        if (m == null) {
            return BAD;
        }
        Sale s = m.takeUsed();
        if (s == null) {
            return NOT;
        }
        int brings = usedWorth(s);
        purse.inTill += brings;
        return brings;
    }

    // ---- lots, limits, charts, carriers

    public int ofLot(int lot, int what, int k) {
        Lot l = lotAt(lot);
        if (l == null || !within(what, 0, 1) || !isDay(k)) {
            return BAD;
        }
        int found = 0;
        for (int i = 0; i < saleCount; i++) {
            Sale s = sales[i];
            if (s.lot == l && (what == 0 ? s.madeOn() : s.badDay) <= k) {
                found++;
            }
        }
        return found;
    }

    public int beyond(int lot, int p, int k) {
        Lot l = lotAt(lot);
        return l == null || !within(p, 1, 9999) || !isDay(k) ? BAD : beyondChance(l, p, k);
    }

    public int since(int lot, int p) {
        Lot l = lotAt(lot);
        if (l == null || !within(p, 1, 9999)) {
            return BAD;
        }
        int day = nextChange(l.model, -1);
        for (int i = 0; i < NEVER && day <= today(); i++) {
            int is = beyondChance(l, p, day);
            if (is != 0) {
                return is == BIG ? BIG : day;
            }
            day = nextChange(l.model, day);
        }
        return NOT;
    }

    public int honest(int buyer, int is) {
        if (!isBuyer(buyer) || !within(is, 0, NOT_TOLD)) {
            return BAD;
        }
        int was = honesty[buyer];
        honesty[buyer] = is;
        return was;
    }

    public int limit() {
        boolean good = reader.readLimit();
        tape.length = 0;
        if (!good) {
            return -100 - reader.fault();
        }
        limitCode = reader.written();
        return 1;
    }

    public int tried(int which) {
        if (!within(which, 0, 3)) {
            return BAD;
        }
        if (limitCode == null) {
            return NOT;
        }
        int found = 0;
        for (int i = 0; i < honesty.length; i++) {
            if (isAmong(i, which) && boughtBy(i) > 0 && isHit(i)) {
                found++;
            }
        }
        return found;
    }

    public int hits(int buyer) {
        if (!isBuyer(buyer)) {
            return BAD;
        }
        return limitCode == null ? NOT : asBit(isHit(buyer));
    }

    public int size(int sale, int told) {
        Sale s = saleAt(sale);
        if (s == null || !within(told, 0, 2)) {
            return BAD;
        }
        if (s.state != IS_BACK) {
            return NOT;
        }
        int was = s.toldSize;
        s.toldSize = told;
        return was;
    }

    public int shift(int model) {
        Model m = modelAt(model);
        if (m == null) {
            return -9;
        }
        int more = 0;
        for (int i = 0; i < saleCount; i++) {
            Sale s = sales[i];
            if (s.model == m && s.state == IS_BACK && s.toldSize != 0 && hasOtherSize(s)) {
                more += s.toldSize == 1 ? 1 : -1;
            }
        }
        return more >= 3 ? 1 : more <= -3 ? -1 : 0;
    }

    public int brought(int sale, int carrier) {
        Sale s = saleAt(sale);
        if (s == null || !isCarrier(carrier)) {
            return BAD;
        }
        if (s.carrier >= 0) {
            return NOT;
        }
        s.carrier = carrier;
        return 1;
    }

    public int damage(int sale) {
        Sale s = saleAt(sale);
        if (s == null) {
            return BAD;
        }
        if (s.carrier < 0 || s.damage != NOT_DAMAGED) {
            return NOT;
        }
        s.damage = today() <= s.madeOn() + 3 ? CARRIERS_OWN : BUYERS_OWN;
        return s.damage;
    }

    public int carrier(int carrier, int what) {
        if (!isCarrier(carrier) || !within(what, 0, 1)) {
            return BAD;
        }
        int found = 0;
        for (int i = 0; i < saleCount; i++) {
            Sale s = sales[i];
            if (s.carrier == carrier && (what == 0 || s.damage == CARRIERS_OWN)) {
                found++;
            }
        }
        return found;
    }

    public int count(int what) {
        switch (what) {
            case 0: return modelCount;
            case 1: return lotCount;
            case 2: return saleCount;
            case 3: return askingCount;
            case 4: return purse.noteCount;
            case 5: return purse.inTill;
            case 6: return purse.onAllNotes();
            case 7: return hour;
            case 8: return textCount;
            case 9: return tape.length;
            case 10: return purse.paid;
            case 11: return purse.spentMending;
            default: return BAD;
        }
    }

    // ---- what numbers mean

    private static boolean within(int v, int least, int greatest) {
        return v >= least && v <= greatest;
    }

    private static boolean isDay(int day) {
        return within(day, 0, LAST_DAY);
    }

    private static boolean isSpan(int from, int to, int greatest) {
        return from >= 0 && from <= to && to <= greatest;
    }

    private static boolean isBuyer(int buyer) {
        return within(buyer, 0, BUYERS - 1);
    }

    private static boolean isCarrier(int carrier) {
        return within(carrier, 0, CARRIERS - 1);
    }

    private static int asBit(boolean is) {
        return is ? 1 : 0;
    }

    /** The digit of v that stands for so many ones (1, 10, 100 ..). */
    private static int digit(int v, int ones) {
        return ones > 0 ? v / ones % 10 : 0;
    }

    private static boolean areDays(int days) {
        if (!within(days, 0, 999999)) {
            return false;
        }
        int least = days / 1000;
        int greatest = days % 1000;
        return least <= greatest && greatest - least <= MOST_SPAN;
    }

    private static boolean areFacts(int facts) {
        return within(facts, 0, 999999)
            && isSpan(digit(facts, 100000), digit(facts, 10000), 1)
            && isSpan(digit(facts, 1000), digit(facts, 100), 9)
            && isSpan(digit(facts, 10), digit(facts, 1), 1);
    }

    private int today() {
        return hour / HOURS_A_DAY;
    }

    private Model modelAt(int number) {
        return within(number, 0, modelCount - 1) ? models[number] : null;
    }

    private Lot lotAt(int number) {
        return within(number, 0, lotCount - 1) ? lots[number] : null;
    }

    private Sale saleAt(int number) {
        return within(number, 0, saleCount - 1) ? sales[number] : null;
    }

    private Asking askingAt(int number) {
        return within(number, 0, askingCount - 1) ? askings[number] : null;
    }

    // ---- what is known of sales

    private int threesOf(Sale sale) {
        if (sale.order == 0) {
            return 1;
        }
        int found = 0;
        for (int i = 0; i < saleCount; i++) {
            if (sales[i].isTogetherWith(sale)) {
                found++;
            }
        }
        return found;
    }

    private boolean hasOtherSize(Sale sale) {
        for (int i = 0; i < saleCount; i++) {
            if (sales[i].isTogetherWith(sale) && sales[i].size != sale.size) {
                return true;
            }
        }
        return false;
    }

    private int boughtBy(int buyer) {
        int found = 0;
        for (int i = 0; i < saleCount; i++) {
            if (sales[i].buyer == buyer) {
                found++;
            }
        }
        return found;
    }

    private int spentBy(int buyer) {
        int spent = 0;
        for (int i = 0; i < saleCount; i++) {
            if (sales[i].buyer == buyer) {
                spent += sales[i].price;
            }
        }
        return spent;
    }

    private int backOfBuyer(int buyer, int from, int to) {
        int found = 0;
        for (int i = 0; i < saleCount; i++) {
            Sale s = sales[i];
            if (s.buyer == buyer && within(s.backDay, from, to)) {
                found++;
            }
        }
        return found;
    }

    private int timesOf(Sale sale, int day) {
        return isBuyer(sale.buyer) ? backOfBuyer(sale.buyer, day - 359, day) : 0;
    }

    private int leftInLots(Model m) {
        int left = 0;
        for (int i = 0; i < lotCount; i++) {
            if (lots[i].model == m) {
                left += lots[i].left;
            }
        }
        return left;
    }

    private int salesOf(Model m, boolean onlyBack, boolean onlyInHeap) {
        int found = 0;
        for (int i = 0; i < saleCount; i++) {
            Sale s = sales[i];
            if (s.model == m && (!onlyBack || s.state == IS_BACK) && (!onlyInHeap || s.inHeap)) {
                found++;
            }
        }
        return found;
    }

    // ---- what texts say

    private Text textFor(int side, Sale sale, int k) {
        for (int i = textCount - 1; i >= 0; i--) {
            Text t = texts[i];
            if (t.side == side && t.made <= k && t.from <= sale.madeOn()) {
                return t;
            }
        }
        return null;
    }

    private void tellSale(Sale sale, int proof, int day) {
        machine.tell(PROOF, proof);
        machine.tell(GIFT, sale.gift);
        machine.tell(KIND, sale.model.kind);
        machine.tell(PRICE, sale.price);
        machine.tell(SIZE, sale.size);
        machine.tell(MONTH, sale.madeOn() / 30 % 12);
        machine.tell(THREES, threesOf(sale));
        machine.tell(TIMES, timesOf(sale, day));
    }

    private void tellFacts(int days, int fault, int worn, int opened) {
        machine.tell(DAYS, days);
        machine.tell(FAULT, fault);
        machine.tell(WORN, worn);
        machine.tell(OPENED, opened);
    }

    private static boolean names(Text t, int name) {
        return t != null && (t.named & 1 << name) != 0;
    }

    private int outOf(Text t) {
        return t == null ? 1000 * GIVES_NO : machine.run(t.code);
    }

    private void judge(Asking a, int k) {
        Text law = textFor(LAW, a.sale, k);
        Text word = textFor(WORD, a.sale, k);
        tellSale(a.sale, a.proof, a.day);
        judgement.start(a.sale.price);
        // A fact that neither TEXT names changes no OUT: its least value stands for its whole span.
        int lastDays = names(law, DAYS) || names(word, DAYS) ? a.mostDays : a.leastDays;
        int lastFault = names(law, FAULT) || names(word, FAULT) ? a.mostFault : a.leastFault;
        int lastWorn = names(law, WORN) || names(word, WORN) ? a.mostWorn : a.leastWorn;
        int lastOpened = names(law, OPENED) || names(word, OPENED) ? a.mostOpened : a.leastOpened;
        for (int days = a.leastDays; days <= lastDays; days++) {
            for (int fault = a.leastFault; fault <= lastFault; fault++) {
                for (int worn = a.leastWorn; worn <= lastWorn; worn++) {
                    for (int opened = a.leastOpened; opened <= lastOpened; opened++) {
                        tellFacts(days, fault, worn, opened);
                        judgement.hear(outOf(law), outOf(word));
                    }
                }
            }
        }
    }

    // ---- what is done for the buyer

    /** Does an OUT with its E: 1, or the refusal, which has changed nothing. */
    private int carryOut(Asking a, int out, int share) {
        int much = a.sale.price * share / 100;
        boolean byNote = a.proof == 0 || a.sale.gift == 1;
        switch (out) {
            case GIVES_REFUND: return byNote ? giveNote(a, much) : giveCoins(a, much);
            case GIVES_NOTE: return giveNote(a, much);
            case GIVES_SWAP: return giveNewPiece(a);
            case GIVES_MEND: return mendForBuyer(a.sale);
            default: return NOT;
        }
    }

    private int giveCoins(Asking a, int much) {
        if (!purse.pay(much)) {
            return NOT;
        }
        a.paid = much;
        a.sale.comeBack(a, today());
        return 1;
    }

    private int giveNote(Asking a, int much) {
        int note = purse.makeNote(much);
        if (note < 0) {
            return FULL;
        }
        a.note = note;
        a.paid = much;
        a.sale.comeBack(a, today());
        return 1;
    }

    private int giveNewPiece(Asking a) {
        if (!takeNewPiece(a.sale.model)) {
            return giveNote(a, a.sale.price);
        }
        a.sale.comeBack(a, today());
        return 1;
    }

    private boolean takeNewPiece(Model m) {
        for (int i = 0; i < lotCount; i++) {
            if (lots[i].model == m && lots[i].left > 0) {
                lots[i].left--;
                return true;
            }
        }
        if (m.sortedNew <= 0) {
            return false;
        }
        m.sortedNew--;
        return true;
    }

    private int mendForBuyer(Sale sale) {
        if (!purse.spendOnMending(sale.model.mend)) {
            return NOT;
        }
        sale.model.mended++;
        sale.state = IS_OUT;
        return 1;
    }

    // ---- what a thing is worth now

    private int usedWorth(Sale s) {
        return s.model.priceFor(today()) * (90 - 8 * s.worn()) / 100;
    }

    private int worthNow(Sale s, int way) {
        switch (way) {
            case AS_NEW: return s.isLikeNew() ? s.model.priceFor(today()) : VOID;
            case AS_USED: return s.isFaulty() ? VOID : usedWorth(s);
            case AS_MENDED: return usedWorth(s) - s.model.mend;
            case AS_SCRAP: return s.model.scrapWorth();
            default: return VOID;
        }
    }

    private int bestWay(Sale s) {
        int best = AS_NEW;
        for (int way = AS_USED; way <= AS_SCRAP; way++) {
            if (worthNow(s, way) > worthNow(s, best)) {
                best = way;
            }
        }
        return best;
    }

    // ---- lots beyond chance

    /** 1, 0 or BIG. */
    private int beyondChance(Lot l, int p, int k) {
        int all = 0;
        int allBad = 0;
        int own = 0;
        int ownBad = 0;
        for (int i = 0; i < saleCount; i++) {
            Sale s = sales[i];
            if (s.model == l.model && s.madeOn() <= k) {
                int bad = asBit(s.badDay <= k);
                int mine = asBit(s.lot == l);
                all++;
                allBad += bad;
                own += mine;
                ownBad += bad * mine;
            }
        }
        if (all > MOST_DEALT) {
            return BIG;
        }
        long deals = choose(all, own);
        return asBit(dealsWith(all, allBad, own, ownBad) < leastNotBelow(deals, p));
    }

    /** In how many deals of own out of all there are ownBad or more of the bad ones. */
    private static long dealsWith(int all, int allBad, int own, int ownBad) {
        long deals = 0;
        for (int i = ownBad; i <= allBad && i <= own; i++) {
            deals += choose(allBad, i) * choose(all - allBad, own - i);
        }
        return deals;
    }

    /** The least whole number not below p of 10000 of the deals, in parts, for the product is too long. */
    private static long leastNotBelow(long deals, int p) {
        return deals / 10000 * p + (deals % 10000 * p + 9999) / 10000;
    }

    /** Ways to choose k of n; n is at most 60, so each product stays within a long. */
    private static long choose(int n, int k) {
        if (k < 0 || k > n) {
            return 0;
        }
        long ways = 1;
        for (int i = 0; i < k; i++) {
            ways = ways * (n - i) / (i + 1);
        }
        return ways;
    }

    /** The first DAY behind a DAY on which a SALE of the MODEL was made or became BAD: only then chances change. */
    private int nextChange(Model m, int day) {
        int next = NEVER;
        for (int i = 0; i < saleCount; i++) {
            Sale s = sales[i];
            if (s.model == m) {
                next = s.madeOn() > day ? Math.min(next, s.madeOn()) : next;
                next = s.badDay > day ? Math.min(next, s.badDay) : next;
            }
        }
        return next;
    }

    // ---- limits

    private boolean isAmong(int buyer, int which) {
        if (which == 3) {
            return true;
        }
        int told = which == 0 ? 1 : which == 1 ? 0 : NOT_TOLD;
        return honesty[buyer] == told;
    }

    private boolean isHit(int buyer) {
        if (limitCode == null) {
            return false;
        }
        int bought = boughtBy(buyer);
        int back = backOfBuyer(buyer, 0, LAST_DAY);
        machine.tell(BOUGHT, bought);
        machine.tell(CAME_BACK, back);
        machine.tell(SHARE, bought > 0 ? 100 * back / bought : 0);
        machine.tell(SPENT, spentBy(buyer));
        machine.tell(LATELY, backOfBuyer(buyer, today() - 29, today()));
        return machine.valueOf(limitCode) != 0;
    }

    /** A MODEL with its PRICES, and what of it stands sorted. */
    private static final class Model {
        final int number;
        final int kind;
        final int weight;
        final int mend;
        final int[] priceDays = new int[MOST_PRICES];
        final int[] prices = new int[MOST_PRICES];
        int priceCount;
        int sortedNew;
        int usedCount;
        int scrapped;
        int mended;
        Sale firstUsed;
        Sale lastUsed;

        Model(int number, int kind, int weight, int mend) {
            this.number = number;
            this.kind = kind;
            this.weight = weight;
            this.mend = mend;
        }

        boolean tellPrice(int day, int price) {
            if (priceCount >= prices.length) {
                return false;
            }
            priceDays[priceCount] = day;
            prices[priceCount] = price;
            priceCount++;
            return true;
        }

        int priceFor(int day) {
            int latest = -1;
            int found = 0;
            for (int i = 0; i < priceCount; i++) {
                if (priceDays[i] <= day && priceDays[i] >= latest) {
                    latest = priceDays[i];
                    found = prices[i];
                }
            }
            return found;
        }

        int scrapWorth() {
            return weight / 100;
        }

        void receive(Sale s, int way) {
            switch (way) {
                case AS_NEW: sortedNew++; break;
                case AS_USED: putUsed(s); break;
                case AS_MENDED: mended++; putUsed(s); break;
                default: scrapped++; break;
            }
        }

        void putUsed(Sale s) {
            if (lastUsed == null) {
                firstUsed = s;
            } else {
                lastUsed.nextUsed = s;
            }
            lastUsed = s;
            usedCount++;
        }

        Sale takeUsed() {
            Sale s = firstUsed;
            if (s == null) {
                return null;
            }
            firstUsed = s.nextUsed;
            if (firstUsed == null) {
                lastUsed = null;
            }
            usedCount--;
            return s;
        }
    }

    private static final class Lot {
        final int number;
        final Model model;
        int left;

        Lot(int number, Model model, int left) {
            this.number = number;
            this.model = model;
            this.left = left;
        }
    }

    private static final class Sale {
        final int receipt;
        final Model model;
        final Lot lot;
        final int number;
        final int size;
        final int order;
        final int card;
        final int buyer;
        final int hour;
        final int price;
        int gift;
        int state = IS_OUT;
        int backDay = NEVER;
        int badDay = NEVER;
        int toldSize;
        int carrier = -1;
        int damage = NOT_DAMAGED;
        boolean inHeap;
        /** The ASKING by which it came BACK. */
        Asking reason;
        Sale nextUsed;

        Sale(int receipt, Lot lot, int number, int what, int who, int hour, int price) {
            this.receipt = receipt;
            this.model = lot.model;
            this.lot = lot;
            this.number = number;
            this.size = what / 1000;
            this.order = what % 1000;
            this.card = who / 100;
            this.buyer = who % 100;
            this.hour = hour;
            this.price = price;
        }

        int madeOn() {
            return hour / HOURS_A_DAY;
        }

        boolean isTogetherWith(Sale other) {
            return order != 0 && order == other.order && model == other.model;
        }

        void comeBack(Asking by, int today) {
            state = IS_BACK;
            backDay = today;
            reason = by;
            inHeap = true;
        }

        int worn() {
            return reason == null ? 0 : reason.mostWorn;
        }

        boolean isFaulty() {
            return reason != null && (reason.leastFault == 1 || reason.light);
        }

        boolean isLikeNew() {
            return reason != null && reason.mostWorn == 0 && reason.mostOpened == 0 && !isFaulty();
        }
    }

    private static final class Asking {
        final Sale sale;
        final int proof;
        final int day;
        final int leastDays;
        final int mostDays;
        final int leastFault;
        final int mostFault;
        final int leastWorn;
        final int mostWorn;
        final int leastOpened;
        final int mostOpened;
        final boolean swapped;
        final boolean light;
        int state = WAITS;
        int paid;
        int note = -1;

        Asking(Sale sale, int proof, int day, int days, int facts, int brought, int grams) {
            this.sale = sale;
            this.proof = proof;
            this.day = day;
            this.leastDays = proof == 0 ? days / 1000 : day - sale.madeOn();
            this.mostDays = proof == 0 ? days % 1000 : day - sale.madeOn();
            this.leastFault = digit(facts, 100000);
            this.mostFault = digit(facts, 10000);
            this.leastWorn = digit(facts, 1000);
            this.mostWorn = digit(facts, 100);
            this.leastOpened = digit(facts, 10);
            this.mostOpened = digit(facts, 1);
            this.swapped = brought != sale.number;
            this.light = Math.abs(grams - sale.model.weight) > sale.model.weight / 50;
        }
    }

    /** THE TILL and the NOTES: every coin that the desk has, owes or has given. */
    private static final class Purse {
        final int[] onNotes = new int[MOST_NOTES];
        int noteCount;
        int inTill;
        int paid;
        int spentMending;

        boolean hasNote(int note) {
            return note >= 0 && note < noteCount && note < onNotes.length;
        }

        /** What a NOTE pays of a price; none (-1) pays nothing. */
        int payByNote(int note, int price) {
            if (!hasNote(note)) {
                return 0;
            }
            int pays = Math.min(onNotes[note], price);
            onNotes[note] -= pays;
            return pays;
        }

        int makeNote(int much) {
            if (noteCount >= onNotes.length) {
                return -1;
            }
            onNotes[noteCount] = much;
            noteCount++;
            return noteCount - 1;
        }

        boolean pay(int much) {
            if (inTill < much) {
                return false;
            }
            inTill -= much;
            paid += much;
            return true;
        }

        boolean spendOnMending(int much) {
            if (inTill < much) {
                return false;
            }
            inTill -= much;
            spentMending += much;
            return true;
        }

        int onAllNotes() {
            int sum = 0;
            for (int i = 0; i < noteCount; i++) {
                sum += onNotes[i];
            }
            return sum;
        }
    }

    private static final class Text {
        final int number;
        final int side;
        final int from;
        final int made;
        final int[] code;
        /** The NAMES in it, each a bit by its number. */
        final int named;

        Text(int number, int side, int from, int made, int[] code) {
            this.number = number;
            this.side = side;
            this.from = from;
            this.made = made;
            this.code = code;
            int bits = 0;
            for (int i = 0; i < code.length; i++) {
                bits |= code[i] >= NAME_CELL ? 1 << code[i] - NAME_CELL : 0;
            }
            this.named = bits;
        }
    }

    /** THE TAPE, and the words, numbers and signs that it is split into. */
    private static final class Tape {
        /** The OUTS in front, so that a word's place among these is its OUT. */
        static final String WORDS = "no mend swap note refund or and not";
        static final String SIGNS = ";:<=>+-*/()";
        static final int MOST_DIGITS = 5;

        final int[] bytes = new int[MOST_BYTES];
        int length;
        /** Of each token: a word's number, a kind of the Reader's, or the sign itself. */
        final int[] kinds = new int[MOST_BYTES + 1];
        final int[] places = new int[MOST_BYTES + 1];
        final int[] cells = new int[MOST_BYTES + 1];
        int tokenCount;

        void append(int four) {
            for (int bits = 24; bits >= 0 && length < bytes.length; bits -= 8) {
                bytes[length] = four >>> bits & 255;
                length++;
            }
        }

        void split(String names) {
            tokenCount = 0;
            int at = 0;
            for (int i = 0; i < MOST_BYTES && at < length; i++) {
                int b = byteAt(at);
                int to = at + 1;
                if (isLetter(b)) {
                    to = endOfWord(at);
                    addWord(at, to, names);
                } else if (isDigit(b)) {
                    to = endOfNumber(at);
                    addNumber(at, to);
                } else if (b != ' ') {
                    add(SIGNS.indexOf((char) b) >= 0 ? b : Reader.OTHER, at, 0);
                }
                at = to;
            }
            add(Reader.END, length, 0);
        }

        /** -1 behind the end, which is neither a letter nor a digit. */
        private int byteAt(int place) {
            return place >= 0 && place < length && place < bytes.length ? bytes[place] : -1;
        }

        private int endOfWord(int from) {
            int to = from;
            while (to < length && isLetter(byteAt(to))) {
                to++;
            }
            return to;
        }

        private int endOfNumber(int from) {
            int to = from;
            while (to < length && isDigit(byteAt(to))) {
                to++;
            }
            return to;
        }

        private void addWord(int from, int to, String names) {
            int word = placeInList(WORDS, from, to);
            int name = placeInList(names, from, to);
            if (word >= 0) {
                add(word, from, 0);
            } else {
                add(name >= 0 ? Reader.NAME : Reader.OTHER, from, NAME_CELL + name);
            }
        }

        private void addNumber(int from, int to) {
            int value = 0;
            for (int i = from; i < to; i++) {
                value = value * 10 + byteAt(i) - '0';
            }
            add(to - from <= MOST_DIGITS ? Reader.NUMBER : Reader.OTHER, from, value);
        }

        private void add(int kind, int place, int cell) {
            if (tokenCount < kinds.length) {
                kinds[tokenCount] = kind;
                places[tokenCount] = place;
                cells[tokenCount] = cell;
                tokenCount++;
            }
        }

        /** Which word of a list, parted by blanks, stands at from up to to; -1: none. */
        private int placeInList(String list, int from, int to) {
            int word = 0;
            int at = from;
            boolean same = true;
            for (int i = 0; i <= list.length(); i++) {
                if (i == list.length() || list.charAt(i) == ' ') {
                    if (same && at == to) {
                        return word;
                    }
                    word++;
                    at = from;
                    same = true;
                } else {
                    same = same && at < to && byteAt(at) == list.charAt(i);
                    at++;
                }
            }
            return -1;
        }

        private static boolean isLetter(int b) {
            return b >= 'a' && b <= 'z';
        }

        private static boolean isDigit(int b) {
            return b >= '0' && b <= '9';
        }
    }

    /** Reads THE TAPE by the grammar and writes code for the Machine: operands first, then what is done with them. */
    private static final class Reader {
        static final int OR = 5, AND = 6, NOT_WORD = 7;
        static final int NUMBER = 20, NAME = 21, OTHER = 22, END = 23;
        static final int MOST_OPEN = 10;

        final Tape tape = new Tape();
        final int[] code = new int[2 * MOST_BYTES];
        int codeLength;
        int at;
        int token = END;

        boolean readText() {
            start(TEXT_NAMES);
            boolean good = readRule();
            for (int i = 0; i < MOST_BYTES && good && token == ';'; i++) {
                step();
                good = readRule();
            }
            return good && token == END;
        }

        boolean readLimit() {
            start(LIMIT_NAMES);
            return readAny(0) && token == END;
        }

        /** Every reading stops at the token with which nothing goes on, so that its place is the FAULT. */
        int fault() {
            return at < tape.places.length ? tape.places[at] : tape.length;
        }

        int[] written() {
            int[] copy = new int[codeLength];
            System.arraycopy(code, 0, copy, 0, codeLength);
            return copy;
        }

        private void start(String names) {
            tape.split(names);
            codeLength = 0;
            at = 0;
            token = tape.kinds[0];
        }

        private void step() {
            if (at + 1 < tape.tokenCount && at + 1 < tape.kinds.length) {
                at++;
                token = tape.kinds[at];
            }
        }

        private void write(int cell) {
            if (codeLength < code.length) {
                code[codeLength] = cell;
                codeLength++;
            }
        }

        private boolean readRule() {
            if (token <= GIVES_REFUND) {
                return readOut();
            }
            if (!readAny(0) || token != ':') {
                return false;
            }
            int skip = codeLength;
            write(SKIP_CELL);
            step();
            if (!readOut()) {
                return false;
            }
            if (skip < code.length) {
                code[skip] = SKIP_CELL - codeLength;
            }
            return true;
        }

        private boolean readOut() {
            int out = token;
            if (out > GIVES_REFUND) {
                return false;
            }
            step();
            if (out >= GIVES_NOTE && !readSum(0)) {
                return false;
            }
            write(GIVE_CELL - out);
            return true;
        }

        private boolean readAny(int open) {
            boolean good = readAll(open);
            for (int i = 0; i < MOST_BYTES && good && token == OR; i++) {
                step();
                good = readAll(open);
                write(OR_CELL);
            }
            return good;
        }

        private boolean readAll(int open) {
            boolean good = readTest(open);
            for (int i = 0; i < MOST_BYTES && good && token == AND; i++) {
                step();
                good = readTest(open);
                write(AND_CELL);
            }
            return good;
        }

        private boolean readTest(int open) {
            if (token == NOT_WORD) {
                return readNot(open);
            }
            boolean good = readSum(open);
            if (good && (token == '<' || token == '=' || token == '>')) {
                int relation = token;
                step();
                good = readSum(open);
                write(-relation);
            }
            return good;
        }

        private boolean readNot(int open) {
            if (open >= MOST_OPEN) {
                return false;
            }
            step();
            boolean good = readTest(open + 1);
            write(NOT_CELL);
            return good;
        }

        private boolean readSum(int open) {
            boolean good = readProduct(open);
            for (int i = 0; i < MOST_BYTES && good && (token == '+' || token == '-'); i++) {
                int sign = token;
                step();
                good = readProduct(open);
                write(-sign);
            }
            return good;
        }

        private boolean readProduct(int open) {
            boolean good = readOperand(open);
            for (int i = 0; i < MOST_BYTES && good && (token == '*' || token == '/'); i++) {
                int sign = token;
                step();
                good = readOperand(open);
                write(-sign);
            }
            return good;
        }

        private boolean readOperand(int open) {
            if (token == NUMBER || token == NAME) {
                write(at < tape.cells.length ? tape.cells[at] : 0);
                step();
                return true;
            }
            if (token != '(' || open >= MOST_OPEN) {
                return false;
            }
            step();
            if (!readAny(open + 1) || token != ')') {
                return false;
            }
            step();
            return true;
        }
    }

    /** Works out code with the NAMES told to it. */
    private static final class Machine {
        final int[] named = new int[MOST_NAMES];
        final int[] stack = new int[MOST_BYTES];
        int height;

        void tell(int name, int value) {
            if (name >= 0 && name < named.length) {
                named[name] = value;
            }
        }

        /** 1000 times the OUT of the first RULE that holds, and its E; 0 (no) if none holds. */
        int run(int[] code) {
            height = 0;
            int at = 0;
            for (int steps = 0; steps < code.length && at < code.length; steps++) {
                int cell = code[at];
                at++;
                if (cell <= SKIP_CELL) {
                    at = pop() == 0 ? SKIP_CELL - cell : at;
                } else if (cell <= GIVE_CELL) {
                    return given(GIVE_CELL - cell);
                } else if (cell < 0) {
                    work(cell);
                } else {
                    push(cell < NAME_CELL ? cell : valueNamed(cell - NAME_CELL));
                }
            }
            return 0;
        }

        /** Of code that is one Q. */
        int valueOf(int[] code) {
            run(code);
            return pop();
        }

        private int given(int out) {
            if (out < GIVES_NOTE) {
                return out == GIVES_NO ? 1000 * GIVES_NO : 1000 * out + 100;
            }
            return 1000 * out + Math.max(0, Math.min(100, pop()));
        }

        private void work(int cell) {
            int right = pop();
            if (cell == NOT_CELL) {
                push(asBit(right == 0));
                return;
            }
            push(combined(cell, pop(), right));
        }

        private static int combined(int cell, int left, int right) {
            switch (cell) {
                case OR_CELL: return asBit(left != 0 || right != 0);
                case AND_CELL: return asBit(left != 0 && right != 0);
                case -'<': return asBit(left < right);
                case -'=': return asBit(left == right);
                case -'>': return asBit(left > right);
                case -'+': return left + right;
                case -'-': return left - right;
                case -'*': return left * right;
                case -'/': return right == 0 ? 0 : left / right;
                default: return 0;
            }
        }

        private int valueNamed(int name) {
            return name >= 0 && name < named.length ? named[name] : 0;
        }

        private void push(int value) {
            if (height < stack.length) {
                stack[height] = value;
                height++;
            }
        }

        private int pop() {
            if (height <= 0) {
                return 0;
            }
            height--;
            return stack[height];
        }
    }

    /** THE BEST and THE WORST of all OUTS heard so far. */
    private static final class Judgement {
        int price;
        boolean heardAny;
        int best;
        int bestWorth;
        int bestSide;
        int worst;
        int worstWorth;

        void start(int priceOfSale) {
            price = priceOfSale;
            heardAny = false;
            best = 0;
            bestWorth = 0;
            bestSide = LAW;
            worst = 0;
            worstWorth = 0;
        }

        void hear(int law, int word) {
            int lawWorth = worthOf(law);
            int wordWorth = worthOf(word);
            int side = wordWorth > lawWorth ? WORD : LAW;
            int out = side == WORD ? word : law;
            int outWorth = Math.max(lawWorth, wordWorth);
            if (!heardAny || outWorth > bestWorth) {
                best = out;
                bestWorth = outWorth;
                bestSide = side;
            }
            if (!heardAny || outWorth < worstWorth) {
                worst = out;
                worstWorth = outWorth;
            }
            heardAny = true;
        }

        private int worthOf(int verdict) {
            int out = verdict / 1000;
            int tenths = out >= 0 && out < TENTHS.length ? TENTHS[out] : 0;
            return price * (verdict % 1000) * tenths / 1000;
        }
    }
}
