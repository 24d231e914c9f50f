/** Promises 24 to 27: stock, worth, sort, sellUsed. */
public final class StockTest {
    private static final Checks C = new Checks("stock");
    private static final int VOID = ReturnDesk.VOID;

    public static void main(String[] args) {
        stock();
        worth();
        faults();
        sortAsNewOrUsed();
        sortMended();
        sortScrap();
        sellUsed();
        C.finish();
    }

    /** One SALE more that came BACK by FACTS and grams, TEXTS giving a refund of nothing. */
    private static int back(ReturnDesk d, int lot, int facts, int grams) {
        int sale = d.sell(lot, 1, 0, 0, -1);
        int asking = d.ask(sale, 2, 0, facts, 1, grams);
        C.due("taken", d.take(asking), 4000);
        return sale;
    }

    private static ReturnDesk shop(int coins) {
        ReturnDesk d = Checks.shop(coins);
        Checks.text(d, 0, 0, "refund 0");
        return d;
    }

    private static void stock() {
        ReturnDesk d = shop(0);
        d.model(0, 1, 1);
        C.due("what -1", d.stock(0, -1), -1);
        C.due("what 7", d.stock(0, 7), -1);
        C.due("model -1", d.stock(-1, 0), -1);
        C.due("model 2", d.stock(2, 0), -1);
        int used = back(d, 0, 100, 500);
        int scrap = back(d, 0, 110000, 500);
        int fresh = back(d, 0, 0, 500);
        int heap = back(d, 0, 0, 500);
        int mended = back(d, 0, 110000, 500);
        d.sell(0, 2, 0, 0, -1);
        C.due("used", d.sort(used), 1);
        C.due("new", d.sort(fresh), 0);
        C.due("mended", d.sort(mended), 2);
        d.price(0, 0, 30);
        C.due("scrap", d.sort(scrap), 3);
        C.due("the heap has one", d.worth(heap, 0), 30);
        int[] want = {45, 2, 1, 1, 6, 5, 1};
        for (int what = 0; what < want.length; what++) {
            C.due("stock(0, " + what + ")", d.stock(0, what), want[what]);
            C.due("stock(1, " + what + ")", d.stock(1, what), 0);
        }
    }

    private static void worth() {
        ReturnDesk d = shop(0);
        d.sell(0, 1, 0, 0, -1);
        C.due("not back", d.worth(0, 3), VOID);
        C.due("sale 1", d.worth(1, 3), VOID);
        C.due("sale -1", d.worth(-1, 3), VOID);
        int sale = back(d, 0, 0, 500);
        C.due("as new", d.worth(sale, 0), 1000);
        C.due("as used", d.worth(sale, 1), 900);
        C.due("mended", d.worth(sale, 2), 870);
        C.due("scrap", d.worth(sale, 3), 5);
        C.due("way 4", d.worth(sale, 4), VOID);
        C.due("way -1", d.worth(sale, -1), VOID);
        d.price(0, 1, 777);
        C.due("price of today", d.worth(sale, 0), 1000);
        d.hours(24);
        C.due("price of tomorrow", d.worth(sale, 0), 777);
        C.due("the rest away", d.worth(sale, 1), 699);
        C.due("mended of that", d.worth(sale, 2), 669);
        int worn = back(d, 0, 900, 500);
        C.due("worn, as new", d.worth(worn, 0), VOID);
        C.due("the greatest told", d.worth(worn, 1), 139);
        d.price(0, 1, 10);
        C.due("less than mending", d.worth(worn, 2), -29);
        d.sort(worn);
        C.due("sorted: not there", d.worth(worn, 3), VOID);
    }

    private static void faults() {
        ReturnDesk d = shop(0);
        int opened = back(d, 0, 1, 500);
        C.due("perhaps opened, as new", d.worth(opened, 0), VOID);
        C.due("perhaps opened, as used", d.worth(opened, 1), 900);
        int perhaps = back(d, 0, 10000, 500);
        C.due("perhaps a fault, as new", d.worth(perhaps, 0), 1000);
        int fault = back(d, 0, 110000, 500);
        C.due("fault, as new", d.worth(fault, 0), VOID);
        C.due("fault, as used", d.worth(fault, 1), VOID);
        C.due("fault, mended", d.worth(fault, 2), 870);
        int light = back(d, 0, 0, 489);
        C.due("light, as new", d.worth(light, 0), VOID);
        C.due("light, as used", d.worth(light, 1), VOID);
        C.due("light, mended", d.worth(light, 2), 870);
        C.due("light is not BAD of the lot", d.ofLot(0, 1, 0), 1);
        int heavy = back(d, 0, 0, 511);
        C.due("heavy, as used", d.worth(heavy, 1), VOID);
    }

    private static void sortAsNewOrUsed() {
        ReturnDesk d = shop(0);
        C.due("sale 0", d.sort(0), -1);
        C.due("sale -1", d.sort(-1), -1);
        d.sell(0, 1, 0, 0, -1);
        C.due("not in the heap", d.sort(0), -2);
        int fresh = back(d, 0, 0, 500);
        C.due("as new", d.sort(fresh), 0);
        C.due("once", d.sort(fresh), -2);
        C.due("back still", d.ofSale(fresh, 0), 2);
        int opened = back(d, 0, 11, 500);
        C.due("as used", d.sort(opened), 1);
        d.price(0, 0, 0);
        d.model(0, 99, 0);
        d.lot(1, 0, 9);
        int nothing = back(d, 1, 0, 99);
        C.due("all worth 0: the first", d.sort(nothing), 0);
        int usedNothing = back(d, 1, 1, 99);
        C.due("as used, mended and scrap worth 0: used", d.sort(usedNothing), 1);
        int faultNothing = back(d, 1, 110000, 99);
        C.due("mended and scrap worth 0: mended", d.sort(faultNothing), 2);
        C.due("for nothing", d.count(11), 0);
    }

    private static void sortMended() {
        ReturnDesk d = shop(0);
        d.price(0, 0, 0);
        int fault = back(d, 0, 111900, 500);
        d.price(0, 0, 1000);
        C.due("till", d.count(5), 0);
        C.due("too few coins to mend", d.sort(fault), -2);
        C.due("there still", d.worth(fault, 2), 150);
        d.till(29);
        C.due("too few still", d.sort(fault), -2);
        d.till(1);
        C.due("just enough", d.sort(fault), 2);
        C.due("spent", d.count(5), 0);
        C.due("on mending", d.count(11), 30);
        C.due("mended", d.stock(0, 6), 1);
        C.due("used", d.stock(0, 1), 1);
        C.due("with its w", d.sellUsed(0), 180);
        int low = back(d, 0, 111900, 500);
        d.price(0, 0, 195);
        C.due("mended 35 - 30 is scrap 5", d.worth(low, 2), 5);
        C.due("mended is first of like ones", d.sort(low), 2);
    }

    private static void sortScrap() {
        ReturnDesk d = shop(0);
        int fault = back(d, 0, 111900, 500);
        d.price(0, 0, 194);
        int till = d.count(5);
        C.due("mended 34 - 30", d.worth(fault, 2), 4);
        C.due("scrap", d.sort(fault), 3);
        C.due("so many coins come", d.count(5), till + 5);
        C.due("scrapped", d.stock(0, 3), 1);
        C.due("no used one", d.stock(0, 1), 0);
        C.due("out of the heap", d.stock(0, 2), 0);
    }

    private static void sellUsed() {
        ReturnDesk d = shop(0);
        C.due("model 1", d.sellUsed(1), -1);
        C.due("model -1", d.sellUsed(-1), -1);
        C.due("none", d.sellUsed(0), -2);
        int a = back(d, 0, 300, 500);
        int b = back(d, 0, 100, 500);
        int c = back(d, 0, 110200, 500);
        d.sort(b);
        d.sort(c);
        d.sort(a);
        int till = d.count(5);
        C.due("the one that came first", d.sellUsed(0), 820);
        C.due("into the till", d.count(5), till + 820);
        d.price(0, 0, 100);
        C.due("by the price of today", d.sellUsed(0), 74);
        C.due("one left", d.stock(0, 1), 1);
        C.due("last", d.sellUsed(0), 66);
        C.due("no more", d.sellUsed(0), -2);
        int e = back(d, 0, 1, 500);
        d.sort(e);
        C.due("again one", d.sellUsed(0), 90);
        C.due("again none", d.sellUsed(0), -2);
        d.sort(back(d, 0, 100, 500));
        d.sort(back(d, 0, 200, 500));
        C.due("first of two", d.sellUsed(0), 82);
        d.sort(back(d, 0, 300, 500));
        C.due("second, ahead of the third", d.sellUsed(0), 74);
        C.due("third", d.sellUsed(0), 66);
    }
}
