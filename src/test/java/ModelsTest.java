/** Promises 1 to 7: a new object, model, price, priceOn, lot, hours, till. */
public final class ModelsTest {
    private static final Checks C = new Checks("models, lots, time");

    public static void main(String[] args) {
        newObject();
        model();
        price();
        lot();
        hours();
        till();
        C.finish();
    }

    private static void newObject() {
        ReturnDesk d = new ReturnDesk();
        for (int what = 0; what <= 11; what++) {
            C.due("count of a new object " + what, d.count(what), 0);
        }
        C.due("no model", d.priceOn(0, 0), -1);
        C.due("no limit", d.tried(3), -2);
        C.due("BAD", ReturnDesk.BAD, -1);
        C.due("NOT", ReturnDesk.NOT, -2);
        C.due("FULL", ReturnDesk.FULL, -3);
        C.due("BIG", ReturnDesk.BIG, -4);
        C.due("VOID", ReturnDesk.VOID, -2000000000);
        ReturnDesk other = new ReturnDesk();
        d.till(5);
        C.due("objects share nothing", other.count(5), 0);
    }

    private static void model() {
        ReturnDesk d = new ReturnDesk();
        C.due("least", d.model(0, 1, 0), 0);
        C.due("greatest", d.model(9, 99999, 9999), 1);
        C.due("kind -1", d.model(-1, 1, 0), -1);
        C.due("kind 10", d.model(10, 1, 0), -1);
        C.due("weight 0", d.model(0, 0, 0), -1);
        C.due("weight 100000", d.model(0, 100000, 0), -1);
        C.due("mend -1", d.model(0, 1, -1), -1);
        C.due("mend 10000", d.model(0, 1, 10000), -1);
        C.due("refused ones don't count", d.count(0), 2);
        for (int i = 2; i < 20; i++) {
            C.due("model", d.model(1, 1, 1), i);
        }
        C.due("the 21st", d.model(1, 1, 1), -3);
        C.due("BAD is named ahead of FULL", d.model(10, 1, 1), -1);
        C.due("count", d.count(0), 20);
        C.due("model 20 of 20", d.priceOn(20, 0), -1);
    }

    private static void price() {
        ReturnDesk d = new ReturnDesk();
        C.due("no model", d.price(0, 0, 1), -1);
        d.model(0, 1, 0);
        C.due("none told", d.priceOn(0, 2999), 0);
        C.due("first", d.price(0, 5, 100), 1);
        C.due("ahead of all", d.priceOn(0, 4), 0);
        C.due("that day", d.priceOn(0, 5), 100);
        C.due("later told, earlier day", d.price(0, 2, 70), 2);
        C.due("the latest day counts, not the last told", d.priceOn(0, 6), 100);
        C.due("between", d.priceOn(0, 4), 70);
        C.due("again for one day", d.price(0, 5, 120), 3);
        C.due("the one told last", d.priceOn(0, 5), 120);
        C.due("price 0", d.price(0, 2999, 0), 4);
        C.due("last day", d.priceOn(0, 2999), 0);
        C.due("day ahead of the last", d.priceOn(0, 2998), 120);
        C.due("day -1", d.price(0, -1, 1), -1);
        C.due("day 3000", d.price(0, 3000, 1), -1);
        C.due("v -1", d.price(0, 0, -1), -1);
        C.due("v 100000", d.price(0, 0, 100000), -1);
        C.due("v 99999", d.price(0, 0, 99999), 5);
        C.due("model -1", d.price(-1, 0, 1), -1);
        C.due("model 1", d.price(1, 0, 1), -1);
        C.due("priceOn day -1", d.priceOn(0, -1), -1);
        C.due("priceOn day 3000", d.priceOn(0, 3000), -1);
        C.due("priceOn model 1", d.priceOn(1, 0), -1);
        C.due("priceOn model -1", d.priceOn(-1, 0), -1);
        for (int i = 6; i <= 20; i++) {
            C.due("price", d.price(0, 9, i), i);
        }
        C.due("the 21st", d.price(0, 9, 1), -3);
        C.due("BAD ahead of FULL", d.price(0, 3000, 1), -1);
        C.due("nothing changed", d.priceOn(0, 9), 20);
        d.model(0, 1, 0);
        C.due("20 a model", d.price(1, 0, 7), 1);
    }

    private static void lot() {
        ReturnDesk d = new ReturnDesk();
        C.due("no model", d.lot(0, 0, 1), -1);
        d.model(0, 1, 0);
        d.model(0, 1, 0);
        C.due("least", d.lot(0, 0, 1), 0);
        C.due("greatest", d.lot(1, 9, 99), 1);
        C.due("stock of 0", d.stock(0, 0), 1);
        C.due("stock of 1", d.stock(1, 0), 99);
        C.due("maker -1", d.lot(0, -1, 1), -1);
        C.due("maker 10", d.lot(0, 10, 1), -1);
        C.due("n 0", d.lot(0, 0, 0), -1);
        C.due("n 100", d.lot(0, 0, 100), -1);
        C.due("model -1", d.lot(-1, 0, 1), -1);
        for (int i = 2; i < 60; i++) {
            C.due("lot", d.lot(0, 0, 1), i);
        }
        C.due("the 61st", d.lot(0, 0, 1), -3);
        C.due("BAD ahead of FULL", d.lot(0, 0, 0), -1);
        C.due("count", d.count(1), 60);
        C.due("lot 60 of 60", d.ofLot(60, 0, 0), -1);
        C.due("stock", d.stock(0, 0), 59);
    }

    private static void hours() {
        ReturnDesk d = new ReturnDesk();
        C.due("0", d.hours(0), -1);
        C.due("-1", d.hours(-1), -1);
        C.due("2401", d.hours(2401), -1);
        C.due("greatest int", d.hours(Integer.MAX_VALUE), -1);
        C.due("1", d.hours(1), 1);
        for (int i = 1; i <= 29; i++) {
            C.due("2400", d.hours(2400), 1 + 2400 * i);
        }
        C.due("beyond 71999", d.hours(2399), -1);
        C.due("HOUR", d.count(7), 69601);
        C.due("up to 71999", d.hours(2398), 71999);
        C.due("no more", d.hours(1), -1);
        C.due("HOUR at the end", d.count(7), 71999);
    }

    private static void till() {
        ReturnDesk d = new ReturnDesk();
        C.due("0", d.till(0), -1);
        C.due("-5", d.till(-5), -1);
        C.due("1000000", d.till(1000000), -1);
        C.due("1", d.till(1), 1);
        C.due("999999", d.till(999999), 1000000);
        C.due("count", d.count(5), 1000000);
    }
}
