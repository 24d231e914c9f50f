/** The edges of promises 24 to 27: on both sides of each, and that a refused call leaves all as it was. */
public final class StockEdgesTest {
    private static final Checks C = new Checks("edges of stock");
    private static final int BAD = -1, NOT = -2, VOID = -2000000000;

    public static void main(String[] args) {
        stock();
        stockOfStates();
        worth();
        asNew();
        byFacts();
        byPriceAndWeight();
        sort();
        greatestWay();
        likeWays();
        mendJustEnough();
        sellUsed();
        cameFirst();
        C.finish();
    }

    /** A MODEL of 500 grams, mended for 30, at a price, of which one SALE came BACK for nothing, told by FACTS and grams. */
    private static Scene back(int price, int facts, int grams) {
        Scene s = Scene.shop(C).calls("price(0, 0, " + price + ")", "sell(0, 7, 0, 0, -1)").text(0, 0, "refund 0", 0);
        return s.takeBack(0, facts, grams, 4000);
    }

    private static Scene worths(Scene s, int fresh, int used, int mended, int scrap) {
        return s.due("worth(0, 0)", fresh).due("worth(0, 1)", used).due("worth(0, 2)", mended).due("worth(0, 3)", scrap);
    }

    /** Promise 24: a MODEL, what 0 .. 6. BAD. */
    private static void stock() {
        Scene s = Scene.rich(C);
        for (int what = 0; what <= 6; what++) {
            s.range("stock(#, " + what + ")", 0, 1, BAD);
        }
        s.range("stock(0, #)", 0, 6, BAD).range("stock(1, #)", 0, 6, BAD);
        int[] first = {3, 1, 1, 0, 6, 2, 1};
        int[] second = {8, 0, 0, 0, 1, 0, 0};
        for (int what = 0; what <= 6; what++) {
            s.due("stock(0, " + what + ")", first[what]).due("stock(1, " + what + ")", second[what]);
        }
    }

    /** new ones, used ones, THE HEAP, scrapped, SALES, BACK in all, mended: each counts what it says and no more. */
    private static void stockOfStates() {
        Scene s = Scene.shop(C).text(0, 0, "fault:mend;refund 0", 0).times(5, "sell(0, 7, 0, 0, -1)");
        stocks(s, 45, 0, 0, 0, 5, 0, 0);
        s.calls("keep(4)", "ask(3, 2, 0, 0, 7, 500)");
        stocks(s, 45, 0, 0, 0, 5, 0, 0);
        s.takeBack(0, 110000, 500, 1100);
        stocks(s, 45, 0, 0, 0, 5, 0, 1);
        s.takeBack(0, 0, 500, 4000).takeBack(1, 1, 500, 4000).takeBack(2, 9900, 511, 4000);
        stocks(s, 45, 0, 3, 0, 5, 3, 1);
        s.due("sort(0)", 0).due("sort(1)", 1);
        stocks(s, 46, 1, 1, 0, 5, 3, 1);
        s.due("sort(2)", 2);
        stocks(s, 46, 2, 0, 0, 5, 3, 2);
        s.due("take(0)", 4000).calls("price(0, 0, 0)").due("sort(3)", 3);
        stocks(s, 46, 2, 0, 1, 5, 4, 2);
        s.due("sellUsed(0)", 0);
        stocks(s, 46, 1, 0, 1, 5, 4, 2);
    }

    private static void stocks(Scene s, int... want) {
        for (int what = 0; what < want.length; what++) {
            s.due("stock(0, " + what + ")", want[what]);
        }
    }

    /** Promise 25: way 0 .. 3. VOID: BAD, not there, or it can't go that way. */
    private static void worth() {
        Scene s = Scene.rich(C);
        s.range("worth(5, #)", 0, 3, VOID);
        for (int way = 0; way <= 3; way++) {
            // Only SALE 5 lies in THE HEAP: the ones beside it are OUT, ASKED, KEPT, or sorted.
            s.range("worth(#, " + way + ")", 5, 5, VOID);
            s.refused("worth(0, " + way + ")", VOID).refused("worth(1, " + way + ")", VOID).refused("worth(3, " + way + ")", VOID);
            s.refused("worth(7, " + way + ")", VOID).refused("worth(-1, " + way + ")", VOID);
        }
        s.due("worth(5, 0)", 1000).due("worth(5, 1)", 900).due("worth(5, 2)", 870).due("worth(5, 3)", 5);
        s.due("sort(5)", 0).refused("worth(5, 0)", VOID).refused("worth(5, 3)", VOID);
    }

    /** As new: if w is 0, not opened (the greatest told), no FAULT (the least told of fault is 1, or LIGHT). */
    private static void asNew() {
        worths(back(1000, 0, 500), 1000, 900, 870, 5);
        worths(back(1000, 100, 500), VOID, 820, 790, 5);
        worths(back(1000, 1, 500), VOID, 900, 870, 5);
        worths(back(1000, 11, 500), VOID, 900, 870, 5);
        worths(back(1000, 10000, 500), 1000, 900, 870, 5);
        worths(back(1000, 110000, 500), VOID, VOID, 870, 5);
        worths(back(1000, 0, 490), 1000, 900, 870, 5);
        worths(back(1000, 0, 489), VOID, VOID, 870, 5);
        worths(back(1000, 0, 510), 1000, 900, 870, 5);
        worths(back(1000, 0, 511), VOID, VOID, 870, 5);
        worths(back(1000, 10000, 511), VOID, VOID, 870, 5);
    }

    /** As used: PRICE (90 - 8 w) / 100, w the greatest told. */
    private static void byFacts() {
        for (int w = 0; w <= 9; w++) {
            int used = 10 * (90 - 8 * w);
            worths(back(1000, 100 * w, 500), w == 0 ? 1000 : VOID, used, used - 30, 5);
            worths(back(1000, 1100 * w, 500), w == 0 ? 1000 : VOID, used, used - 30, 5);
            worths(back(1000, 110000 + 100 * w, 500), VOID, VOID, used - 30, 5);
        }
    }

    /** PRICE of TODAY; / 100 and WEIGHT / 100 with the rest away; mended may be below 0. */
    private static void byPriceAndWeight() {
        worths(back(0, 0, 500), 0, 0, -30, 5);
        worths(back(1, 0, 500), 1, 0, -30, 5);
        worths(back(2, 0, 500), 2, 1, -29, 5);
        worths(back(99999, 0, 500), 99999, 89999, 89969, 5);
        worths(back(99999, 900, 500), VOID, 17999, 17969, 5);
        worths(back(33, 0, 500), 33, 29, -1, 5);
        Scene s = back(1000, 0, 500).calls("price(0, 1, 700)").until(23).due("worth(0, 0)", 1000).until(24);
        worths(s, 700, 630, 600, 5).due("price(0, 1, 600)", 4);
        worths(s, 600, 540, 510, 5);
        int[] weights = {1, 99, 100, 199, 99999};
        for (int weight : weights) {
            Scene t = new Scene(C).calls("model(0, " + weight + ", 9999)", "lot(0, 0, 1)", "sell(0, 7, 0, 0, -1)");
            t.text(0, 0, "refund 0", 0).takeBack(0, 0, weight, 4000).due("worth(0, 3)", weight / 100).due("worth(0, 2)", -9999);
        }
    }

    /** Promise 26: a SALE. BAD; NOT: it is not in THE HEAP. */
    private static void sort() {
        Scene s = Scene.rich(C);
        s.range("sort(#)", 0, 6, BAD);
        for (int sale : new int[] {0, 1, 2, 3, 4, 6}) {
            s.refused("sort(" + sale + ")", NOT);
        }
        s.due("sort(5)", 0).refused("sort(5)", NOT).due("stock(0, 2)", 0).due("ofSale(5, 0)", 2);
    }

    /** The way of the greatest WORTH NOW: by one coin. */
    private static void greatestWay() {
        back(5, 0, 500).due("sort(0)", 0).due("count(5)", 5).due("stock(0, 3)", 0);
        back(4, 0, 500).due("sort(0)", 3).due("count(5)", 9).due("stock(0, 3)", 1);
        back(6, 1, 500).due("worth(0, 1)", 5).due("sort(0)", 1);
        back(5, 1, 500).due("worth(0, 1)", 4).due("sort(0)", 3);
        back(39, 110000, 500).due("worth(0, 2)", 5).due("sort(0)", 2);
        back(38, 110000, 500).due("worth(0, 2)", 4).due("sort(0)", 3);
        back(40, 110000, 500).due("worth(0, 2)", 6).due("sort(0)", 2);
        back(7, 1, 500).due("worth(0, 1)", 6).due("sort(0)", 1);
        back(6, 0, 500).due("worth(0, 0)", 6).due("sort(0)", 0);
    }

    /** First of these in this order: as new, as used, mended, scrap. */
    private static void likeWays() {
        Scene free = new Scene(C).calls("model(0, 99, 0)", "lot(0, 0, 9)").text(0, 0, "refund 0", 0);
        free.times(3, "sell(0, 7, 0, 0, -1)").takeBack(0, 0, 99, 4000).takeBack(1, 1, 99, 4000).takeBack(2, 110000, 99, 4000);
        worths(free, 0, 0, 0, 0).due("sort(0)", 0).due("sort(1)", 1).due("sort(2)", 2);
        // Mended for nothing is worth as much as used: used comes first.
        Scene s = new Scene(C).calls("model(0, 99, 0)", "price(0, 0, 100)", "lot(0, 0, 9)").text(0, 0, "refund 0", 0);
        s.times(2, "sell(0, 7, 0, 0, -1)").takeBack(0, 100, 99, 4000).takeBack(1, 110000, 99, 4000);
        s.due("worth(0, 1)", 82).due("worth(0, 2)", 82).due("sort(0)", 1).due("stock(0, 6)", 0);
        s.due("worth(1, 2)", 90).due("sort(1)", 2).due("stock(0, 6)", 1).due("count(11)", 0);
        // As new and as used are worth 0 each, scrap one coin.
        Scene t = new Scene(C).calls("model(0, 100, 0)", "lot(0, 0, 9)").text(0, 0, "refund 0", 0).calls("sell(0, 7, 0, 0, -1)");
        t.takeBack(0, 0, 100, 4000).due("sort(0)", 3).due("count(5)", 1).due("stock(0, 3)", 1);
    }

    /** NOT: THE TILL has too few coins to mend it; just enough will do. */
    private static void mendJustEnough() {
        Scene s = Scene.shop(C).calls("price(0, 0, 0)", "sell(0, 7, 0, 0, -1)").text(0, 0, "refund 0", 0);
        s.takeBack(0, 110000, 500, 4000).calls("price(0, 0, 1000)").due("count(5)", 0).refused("sort(0)", NOT);
        s.due("till(29)", 29).refused("sort(0)", NOT).due("worth(0, 2)", 870).due("till(1)", 30).due("sort(0)", 2);
        s.due("count(5)", 0).due("count(11)", 30).due("stock(0, 6)", 1).due("stock(0, 1)", 1).due("count(10)", 0);
        // Scrap and as used ask for no coins.
        Scene t = Scene.shop(C).calls("price(0, 0, 0)").times(2, "sell(0, 7, 0, 0, -1)").text(0, 0, "refund 0", 0);
        t.takeBack(0, 110000, 500, 4000).takeBack(1, 1, 500, 4000).due("count(5)", 0).due("sort(0)", 3).due("count(5)", 5);
        t.calls("price(0, 0, 1000)").due("sort(1)", 1).due("count(5)", 5);
    }

    /** Promise 27: a MODEL. BAD; NOT: there is none. */
    private static void sellUsed() {
        Scene s = Scene.rich(C);
        s.range("sellUsed(#)", 0, 1, BAD).refused("sellUsed(1)", NOT).due("sellUsed(0)", 820).refused("sellUsed(0)", NOT);
        s.due("sort(5)", 0).refused("sellUsed(0)", NOT);
        int[] prices = {0, 1, 2, 99999};
        int[] coins = {0, 0, 1, 89999};
        for (int i = 0; i < prices.length; i++) {
            Scene t = back(1000, 1, 500).due("sort(0)", 1).due("price(0, 0, " + prices[i] + ")", 3);
            t.due("sellUsed(0)", coins[i]).due("count(5)", 1000 + coins[i]).refused("sellUsed(0)", NOT);
        }
        back(1000, 900, 500).due("sort(0)", 1).due("sellUsed(0)", 180);
        back(1000, 900, 500).due("sort(0)", 1).calls("price(0, 1, 500)").until(23).due("sellUsed(0)", 180);
        back(1000, 900, 500).due("sort(0)", 1).calls("price(0, 1, 500)").until(24).due("sellUsed(0)", 90);
    }

    /** With w of the one that came first; mended ones stand among the others. */
    private static void cameFirst() {
        Scene s = Scene.shop(C).text(0, 0, "refund 0", 0).times(5, "sell(0, 7, 0, 0, -1)");
        s.takeBack(0, 100, 500, 4000).takeBack(1, 110200, 500, 4000).takeBack(2, 300, 500, 4000).takeBack(3, 400, 500, 4000);
        s.due("sort(2)", 1).due("sort(1)", 2).due("sort(0)", 1).due("sellUsed(0)", 660).due("sort(3)", 1);
        s.due("sellUsed(0)", 740).due("sellUsed(0)", 820).due("sellUsed(0)", 580).refused("sellUsed(0)", NOT);
        s.takeBack(4, 500, 500, 4000).refused("sellUsed(0)", NOT).due("sort(4)", 1).due("sellUsed(0)", 500);
        s.refused("sellUsed(0)", NOT);
    }
}
