/** Promises 28 to 40: ofLot, beyond, since, honest, limit, tried, hits, size, shift, brought, damage, carrier, count. */
public final class LotsTest {
    private static final Checks C = new Checks("lots, limits, charts, carriers");

    public static void main(String[] args) {
        ofLot();
        beyond();
        beyondExactly();
        beyondBig();
        beyondFinely();
        since();
        honest();
        limit();
        triedAndHits();
        limitNames();
        lately();
        size();
        shift();
        carriers();
        damageAtTheEnd();
        count();
        C.finish();
    }

    private static void sellMany(ReturnDesk d, int lot, int n) {
        for (int i = 0; i < n; i++) {
            d.sell(lot, 1, 0, 60, -1);
        }
    }

    private static void comesBack(ReturnDesk d, int sale, int facts) {
        int asking = d.ask(sale, 2, 0, facts, d.ofSale(sale, 4), 500);
        C.holds("taken", d.take(asking) >= 0);
    }

    private static void ofLot() {
        ReturnDesk d = Checks.shop(0);
        d.lot(0, 0, 9);
        sellMany(d, 0, 2);
        Checks.days(d, 2);
        sellMany(d, 0, 3);
        sellMany(d, 1, 1);
        Checks.text(d, 0, 0, "worn:refund 10;mend");
        int asked = d.ask(0, 2, 0, 110000, 1, 500);
        Checks.days(d, 3);
        d.take(asked);
        comesBack(d, 2, 10000);
        comesBack(d, 3, 110100);
        int[] sold = {2, 2, 5, 5, 5, 5, 5};
        int[] bad = {0, 0, 0, 0, 0, 2, 2};
        for (int k = 0; k < sold.length; k++) {
            C.due("sold by " + k, d.ofLot(0, 0, k), sold[k]);
            C.due("BAD by " + k, d.ofLot(0, 1, k), bad[k]);
        }
        Checks.days(d, 1);
        comesBack(d, 0, 110100);
        C.due("once, on the first such day", d.ofLot(0, 1, 6), 2);
        C.due("on the first such day still", d.ofLot(0, 1, 5), 2);
        comesBack(d, 4, 10100);
        C.due("perhaps a fault is not BAD", d.ofLot(0, 1, 2999), 2);
        comesBack(d, 1, 100);
        C.due("no fault is not BAD", d.ofLot(0, 1, 2999), 2);
        C.due("the other lot", d.ofLot(1, 0, 2), 1);
        C.due("the other lot's BAD", d.ofLot(1, 1, 9), 0);
        int left = d.ask(5, 2, 0, 110000, 1, 500);
        d.leave(left);
        C.due("left is not BAD", d.ofLot(1, 1, 9), 0);
        C.due("lot 2", d.ofLot(2, 0, 0), -1);
        C.due("lot -1", d.ofLot(-1, 0, 0), -1);
        C.due("what 2", d.ofLot(0, 2, 0), -1);
        C.due("what -1", d.ofLot(0, -1, 0), -1);
        C.due("k -1", d.ofLot(0, 0, -1), -1);
        C.due("k 3000", d.ofLot(0, 0, 3000), -1);
    }

    /** Two LOTS, 4 and 6 sold on DAY 0, 3 of the first and 1 of the second BAD on DAY 1. */
    private static ReturnDesk tenSold() {
        ReturnDesk d = Checks.shop(0);
        d.lot(0, 0, 9);
        sellMany(d, 0, 4);
        sellMany(d, 1, 6);
        Checks.text(d, 0, 0, "refund 1");
        Checks.days(d, 1);
        int[] bad = {0, 1, 2, 4};
        for (int i = 0; i < bad.length; i++) {
            comesBack(d, bad[i], 110000);
        }
        return d;
    }

    /** 3 or more of 4 BAD among 4 of 10: (4 * 6 + 1) of 210 is 0.11904; 1 or more of 6: (210 - 1) of 210. */
    private static void beyond() {
        ReturnDesk d = tenSold();
        C.due("1190", d.beyond(0, 1190, 1), 0);
        C.due("1191", d.beyond(0, 1191, 1), 1);
        C.due("a day ahead", d.beyond(0, 9999, 0), 0);
        C.due("9952", d.beyond(1, 9952, 1), 0);
        C.due("9953", d.beyond(1, 9953, 1), 1);
        Checks.days(d, 1);
        sellMany(d, 1, 1);
        C.due("as known then", d.beyond(0, 1191, 1), 1);
        C.due("3 or more of 4 among 11: 29 of 330", d.beyond(0, 878, 2), 0);
        C.due("is 0.08787", d.beyond(0, 879, 2), 1);
        C.due("days to come", d.beyond(0, 879, 2999), 1);
        C.due("p 0", d.beyond(0, 0, 1), -1);
        C.due("p 10000", d.beyond(0, 10000, 1), -1);
        C.due("lot 2", d.beyond(2, 1, 1), -1);
        C.due("lot -1", d.beyond(-1, 1, 1), -1);
        C.due("k -1", d.beyond(0, 1, -1), -1);
        C.due("k 3000", d.beyond(0, 1, 3000), -1);
        d.model(0, 1, 1);
        d.lot(1, 0, 5);
        C.due("nothing sold", d.beyond(2, 9999, 2), 0);
        sellMany(d, 2, 5);
        C.due("another model's sales don't count", d.beyond(0, 879, 2), 1);
        C.due("none BAD", d.beyond(2, 9999, 2), 0);
    }

    /** One BAD of 4, all alike: a chance of just a quarter, which is not less than 2500. */
    private static void beyondExactly() {
        ReturnDesk d = Checks.shop(0);
        d.lot(0, 0, 9);
        sellMany(d, 0, 1);
        sellMany(d, 1, 3);
        Checks.text(d, 0, 0, "refund 1");
        comesBack(d, 0, 110000);
        C.due("a quarter is not less than a quarter", d.beyond(0, 2500, 0), 0);
        C.due("less than 2501", d.beyond(0, 2501, 0), 1);
        C.due("all of them surely", d.beyond(1, 9999, 0), 0);
    }

    private static void beyondBig() {
        ReturnDesk d = Checks.shop(0);
        d.lot(0, 0, 99);
        sellMany(d, 0, 30);
        sellMany(d, 1, 30);
        Checks.text(d, 0, 0, "refund 1");
        for (int i = 0; i < 15; i++) {
            comesBack(d, 2 * i, 110000);
            comesBack(d, 30 + i, 110000);
        }
        C.due("15 of 30 among 60", d.beyond(0, 6017, 0), 0);
        C.due("is 0.601727", d.beyond(0, 6018, 0), 1);
        comesBack(d, 1, 110000);
        C.due("16 or more of 30 with 31 BAD among 60", d.beyond(0, 5001, 0), 1);
        C.due("is just a half", d.beyond(0, 5000, 0), 0);
        Checks.days(d, 1);
        sellMany(d, 1, 1);
        C.due("61 sales", d.beyond(0, 9999, 1), -4);
        C.due("60 on the day ahead", d.beyond(0, 5001, 0), 1);
        C.due("BAD ahead of BIG", d.beyond(0, 10000, 1), -1);
        C.due("since ahead of the 61st", d.since(0, 5001), 0);
        C.due("since: too many ahead of any", d.since(0, 5000), -4);
    }

    /** 10 or more of 34 among 60 with 17 BAD: 5328.99984 of 10000. */
    private static void beyondFinely() {
        ReturnDesk d = Checks.shop(0);
        d.lot(0, 0, 99);
        sellMany(d, 0, 34);
        sellMany(d, 1, 26);
        Checks.text(d, 0, 0, "mend");
        for (int i = 0; i < 17; i++) {
            comesBack(d, 24 + i, 110000);
        }
        C.due("5328", d.beyond(0, 5328, 0), 0);
        C.due("5329", d.beyond(0, 5329, 0), 1);
        C.due("since 5328", d.since(0, 5328), -2);
        C.due("since 5329", d.since(0, 5329), 0);
        C.due("least p", d.beyond(0, 1, 0), 0);
        C.due("since least p", d.since(0, 1), -2);
    }

    private static void since() {
        ReturnDesk d = Checks.shop(0);
        C.due("nothing sold", d.since(0, 9999), -2);
        C.due("lot 1", d.since(1, 1), -1);
        C.due("lot -1", d.since(-1, 1), -1);
        C.due("p 0", d.since(0, 0), -1);
        C.due("p 10000", d.since(0, 10000), -1);
        d.lot(0, 0, 9);
        Checks.text(d, 0, 0, "mend");
        sellMany(d, 0, 2);
        Checks.days(d, 3);
        comesBack(d, 0, 110000);
        C.due("one lot alone is never", d.since(0, 9999), -2);
        Checks.days(d, 4);
        sellMany(d, 1, 2);
        C.due("half since day 7", d.since(0, 5001), 7);
        C.due("not less than half", d.since(0, 5000), -2);
        Checks.days(d, 2);
        comesBack(d, 1, 110000);
        C.due("a sixth since day 9", d.since(0, 5000), 9);
        C.due("the first day counts", d.since(0, 5001), 7);
        Checks.days(d, 1);
        comesBack(d, 2, 110000);
        comesBack(d, 3, 110000);
        C.due("though it is not now", d.beyond(0, 9999, 10), 0);
        C.due("it was", d.since(0, 1667), 9);
        C.due("a sixth is 1666.7", d.since(0, 1666), -2);
        ReturnDesk e = Checks.shop(0);
        e.lot(0, 0, 9);
        Checks.text(e, 0, 0, "mend");
        sellMany(e, 0, 1);
        sellMany(e, 1, 1);
        Checks.days(e, 4);
        comesBack(e, 0, 110000);
        Checks.days(e, 4);
        C.due("since its first sale was mended", e.since(0, 5001), 4);
    }

    private static void honest() {
        ReturnDesk d = new ReturnDesk();
        C.due("not told at first", d.honest(0, 1), 2);
        C.due("was told honest", d.honest(0, 0), 1);
        C.due("was told not", d.honest(0, 2), 0);
        C.due("not told again", d.honest(0, 2), 2);
        C.due("the last buyer", d.honest(59, 1), 2);
        C.due("buyer 60", d.honest(60, 1), -1);
        C.due("buyer -1", d.honest(-1, 1), -1);
        C.due("is 3", d.honest(0, 3), -1);
        C.due("is -1", d.honest(0, -1), -1);
        C.due("unchanged", d.honest(0, 2), 2);
    }

    private static void limit() {
        ReturnDesk d = new ReturnDesk();
        C.due("empty", d.limit(), -100);
        C.due("none", d.hits(0), -2);
        C.due("none tried", d.tried(0), -2);
        C.due("BAD ahead of NOT", d.tried(4), -1);
        C.due("BAD ahead of NOT", d.hits(60), -1);
        C.due("one Q", Checks.limit(d, "not bought"), 1);
        C.due("the tape is empty", d.count(9), 0);
        C.due("no text", d.count(8), 0);
        C.due("hits", d.hits(0), 1);
        String[] faulty = {"bought>", "bought:no", "bought;bought", "no", "days", "price>1", "(bought", "bought)",
            "refund 1", "bought 1", "back+not back"};
        int[] place = {7, 6, 6, 0, 0, 0, 7, 6, 0, 7, 5};
        for (int i = 0; i < faulty.length; i++) {
            C.due("limit '" + faulty[i] + "'", Checks.limit(d, faulty[i]), -100 - place[i]);
            C.due("the tape is empty", d.count(9), 0);
        }
        C.due("the one that was stays", d.hits(0), 1);
        C.due("ten open", Checks.limit(d, "((((((((((0))))))))))"), 1);
        C.due("the new one counts", d.hits(0), 0);
        C.due("eleven open", Checks.limit(d, "not((((((((((0))))))))))"), -112);
    }

    private static void triedAndHits() {
        ReturnDesk d = Checks.shop(9000);
        Checks.text(d, 0, 0, "refund 1");
        for (int buyer = 0; buyer < 6; buyer++) {
            for (int i = 0; i <= buyer; i++) {
                d.sell(0, 1, 0, buyer, -1);
            }
        }
        sellMany(d, 0, 9);
        d.honest(1, 1);
        d.honest(2, 0);
        d.honest(3, 1);
        d.honest(4, 0);
        d.honest(9, 1);
        Checks.limit(d, "bought>2");
        C.due("honest", d.tried(0), 1);
        C.due("not", d.tried(1), 2);
        C.due("not told", d.tried(2), 1);
        C.due("all", d.tried(3), 4);
        C.due("which 4", d.tried(4), -1);
        C.due("which -1", d.tried(-1), -1);
        C.due("hits 2", d.hits(2), 1);
        C.due("hits 1", d.hits(1), 0);
        C.due("buyer 60", d.hits(60), -1);
        C.due("buyer -1", d.hits(-1), -1);
        Checks.limit(d, "0-1");
        C.due("only buyers with a sale", d.tried(3), 6);
        d.honest(5, 0);
        C.due("not told ones with a sale", d.tried(2), 1);
        C.due("not honest ones with a sale", d.tried(1), 3);
        C.due("honest ones with a sale", d.tried(0), 2);
        C.due("hits without a sale", d.hits(9), 1);
    }

    private static int hit(ReturnDesk d, int buyer, String q) {
        C.due("limit '" + q + "'", Checks.limit(d, q), 1);
        return d.hits(buyer);
    }

    private static void limitNames() {
        ReturnDesk d = Checks.shop(9000);
        Checks.text(d, 0, 0, "refund 1");
        d.price(0, 1, 500);
        d.sell(0, 1, 0, 3, -1);
        d.sell(0, 1, 0, 3, -1);
        d.sell(0, 1, 0, 4, -1);
        d.hours(24);
        d.sell(0, 1, 0, 3, -1);
        comesBack(d, 0, 0);
        comesBack(d, 1, 0);
        comesBack(d, 2, 0);
        C.due("bought", hit(d, 3, "bought=3"), 1);
        C.due("back", hit(d, 3, "back=2"), 1);
        C.due("share, the rest away", hit(d, 3, "share=66"), 1);
        C.due("share of all", hit(d, 4, "share=100"), 1);
        C.due("share without", hit(d, 5, "share=0"), 1);
        C.due("spent, also on what is back", hit(d, 3, "spent=2500"), 1);
        C.due("nothing spent", hit(d, 5, "spent+bought+back+lately"), 0);
        C.due("lately", hit(d, 3, "lately=2"), 1);
    }

    private static void lately() {
        ReturnDesk d = Checks.shop(9000);
        Checks.text(d, 0, 0, "refund 1");
        d.sell(0, 1, 0, 3, -1);
        d.sell(0, 1, 0, 4, -1);
        comesBack(d, 1, 0);
        C.due("back on day 0", hit(d, 4, "back and lately"), 1);
        Checks.days(d, 2);
        comesBack(d, 0, 0);
        Checks.limit(d, "lately");
        Checks.days(d, 29);
        C.due("29 days ago", d.hits(3), 1);
        Checks.days(d, 1);
        C.due("30 days ago", d.hits(3), 0);
        C.due("back still", hit(d, 3, "back"), 1);
    }

    private static void size() {
        ReturnDesk d = Checks.shop(9000);
        Checks.text(d, 0, 0, "refund 1");
        C.due("sale 0", d.size(0, 0), -1);
        d.sell(0, 1, 0, 3, -1);
        C.due("sale -1", d.size(-1, 0), -1);
        C.due("not back", d.size(0, 1), -2);
        C.due("BAD ahead of NOT", d.size(0, 3), -1);
        C.due("told -1", d.size(0, -1), -1);
        comesBack(d, 0, 0);
        C.due("nothing at first", d.size(0, 1), 0);
        C.due("too small", d.size(0, 2), 1);
        C.due("too great", d.size(0, 0), 2);
        C.due("nothing again", d.size(0, 0), 0);
    }

    /** Orders 1 to 6 of sizes 4 and 5, order 7 of one size, order 8 of the other model's size. */
    private static void shift() {
        ReturnDesk d = Checks.shop(9000);
        d.model(0, 500, 0);
        d.lot(1, 0, 9);
        Checks.text(d, 0, 0, "refund 1");
        for (int order = 1; order <= 6; order++) {
            d.sell(0, 1, 4000 + order, 60, -1);
            d.sell(0, 1, 5000 + order, 60, -1);
        }
        d.sell(0, 1, 4007, 60, -1);
        d.sell(0, 1, 4007, 60, -1);
        d.sell(0, 1, 4008, 60, -1);
        d.sell(1, 1, 5008, 60, -1);
        d.sell(0, 1, 4000, 60, -1);
        d.sell(0, 1, 5000, 60, -1);
        C.due("no model", d.shift(2), -9);
        C.due("model -1", d.shift(-1), -9);
        for (int sale = 0; sale < 18; sale++) {
            comesBack(d, sale, 0);
        }
        C.due("nothing told", d.shift(0), 0);
        for (int sale = 12; sale < 18; sale++) {
            d.size(sale, 1);
        }
        C.due("one size, another model, no order: none counts", d.shift(0), 0);
        C.due("of the other model neither", d.shift(1), 0);
        d.size(0, 1);
        d.size(1, 1);
        C.due("2", d.shift(0), 0);
        d.size(2, 1);
        C.due("3", d.shift(0), 1);
        d.size(3, 2);
        C.due("3 less 1", d.shift(0), 0);
        d.size(4, 1);
        C.due("4 less 1", d.shift(0), 1);
        for (int sale = 0; sale < 4; sale++) {
            d.size(sale, 2);
        }
        C.due("1 less 4", d.shift(0), -1);
        d.size(0, 0);
        C.due("1 less 3", d.shift(0), 0);
        C.due("of the other model", d.shift(1), 0);
    }

    private static void carriers() {
        ReturnDesk d = Checks.shop(0);
        C.due("sale 0", d.brought(0, 0), -1);
        C.due("damage of sale 0", d.damage(0), -1);
        Checks.days(d, 1);
        sellMany(d, 0, 5);
        C.due("sale -1", d.brought(-1, 0), -1);
        C.due("carrier 5", d.brought(0, 5), -1);
        C.due("carrier -1", d.brought(0, -1), -1);
        C.due("not brought", d.damage(0), -2);
        C.due("damage of sale -1", d.damage(-1), -1);
        for (int sale = 0; sale < 4; sale++) {
            C.due("brought", d.brought(sale, sale == 3 ? 4 : 2), 1);
        }
        C.due("was brought", d.brought(0, 4), -2);
        C.due("BAD ahead of NOT", d.brought(0, 5), -1);
        C.due("by 2", d.carrier(2, 0), 3);
        C.due("by 4", d.carrier(4, 0), 1);
        C.due("by 0", d.carrier(0, 0), 0);
        d.brought(4, 0);
        C.due("was brought by 0", d.brought(4, 0), -2);
        C.due("by 0, once", d.carrier(0, 0), 1);
        C.due("the same day", d.damage(0), 1);
        C.due("told", d.damage(0), -2);
        Checks.days(d, 3);
        C.due("the 3rd day behind", d.damage(1), 1);
        d.hours(24);
        C.due("the 4th", d.damage(2), 0);
        C.due("told too", d.damage(2), -2);
        C.due("its own", d.carrier(2, 1), 2);
        C.due("none of 4", d.carrier(4, 1), 0);
        C.due("all brought", d.carrier(2, 0), 3);
        C.due("carrier 5", d.carrier(5, 0), -1);
        C.due("carrier -1", d.carrier(-1, 0), -1);
        C.due("what 2", d.carrier(0, 2), -1);
        C.due("what -1", d.carrier(0, -1), -1);
    }

    private static void damageAtTheEnd() {
        ReturnDesk d = Checks.shop(0);
        Checks.days(d, 2999);
        d.hours(23);
        C.due("the last hour", d.count(7), 71999);
        sellMany(d, 0, 2);
        d.brought(0, 0);
        C.due("brought alone is no damage", d.carrier(0, 1), 0);
        C.due("on the last day", d.damage(0), 1);
        C.due("one", d.carrier(0, 1), 1);
        C.due("nothing is BAD for want of a day", d.ofLot(0, 1, 2999), 0);
    }

    private static void count() {
        ReturnDesk d = Checks.shop(100);
        d.model(0, 1, 1);
        d.lot(0, 0, 1);
        d.lot(0, 0, 1);
        Checks.text(d, 0, 0, "worn=1:refund 30;worn=2:note 20;mend");
        sellMany(d, 0, 5);
        comesBack(d, 0, 1100);
        comesBack(d, 1, 2200);
        comesBack(d, 2, 2200);
        comesBack(d, 3, 110000);
        d.sell(0, 1, 0, 0, 0);
        d.hours(3);
        Checks.feed(d, "price");
        int[] want = {2, 3, 6, 4, 2, 5570, 200, 3, 1, 5, 300, 30};
        for (int what = 0; what < want.length; what++) {
            C.due("count(" + what + ")", d.count(what), want[what]);
        }
        C.due("what 12", d.count(12), -1);
        C.due("what -1", d.count(-1), -1);
    }
}
