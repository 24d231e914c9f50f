/** Promises 8 to 12: sell, gift, ofSale, join, keep. */
public final class SalesTest {
    private static final Checks C = new Checks("sales");
    private static final int VOID = ReturnDesk.VOID;

    public static void main(String[] args) {
        sell();
        sellByNote();
        sellFull();
        gift();
        ofSale();
        join();
        keep();
        C.finish();
    }

    private static void sell() {
        ReturnDesk d = new ReturnDesk();
        C.due("no lot", d.sell(0, 1, 0, 0, -1), -1);
        d.model(1, 10, 1);
        d.price(0, 0, 100);
        d.price(0, 1, 90);
        d.lot(0, 0, 3);
        C.due("number 0", d.sell(0, 0, 0, 0, -1), -1);
        C.due("number 1000000", d.sell(0, 1000000, 0, 0, -1), -1);
        C.due("what -1", d.sell(0, 1, -1, 0, -1), -1);
        C.due("size 21", d.sell(0, 1, 21000, 0, -1), -1);
        C.due("who -1", d.sell(0, 1, 0, -1, -1), -1);
        C.due("buyer 61", d.sell(0, 1, 0, 61, -1), -1);
        C.due("card 10000", d.sell(0, 1, 0, 1000000, -1), -1);
        C.due("note 0", d.sell(0, 1, 0, 0, 0), -1);
        C.due("note -2", d.sell(0, 1, 0, 0, -2), -1);
        C.due("lot 1", d.sell(1, 1, 0, 0, -1), -1);
        C.due("lot -1", d.sell(-1, 1, 0, 0, -1), -1);
        C.due("nothing sold", d.count(2), 0);
        C.due("least", d.sell(0, 1, 0, 0, -1), 0);
        C.due("price of DAY 0", d.count(5), 100);
        d.hours(24);
        C.due("greatest", d.sell(0, 999999, 20999, 999960, -1), 1);
        C.due("price of DAY 1", d.count(5), 190);
        C.due("stock", d.stock(0, 0), 1);
        C.due("a number may come again", d.sell(0, 1, 0, 60, -1), 2);
        C.due("no piece more", d.sell(0, 1, 0, 0, -1), -2);
        C.due("BAD ahead of NOT", d.sell(0, 0, 0, 0, -1), -1);
        C.due("till", d.count(5), 280);
    }

    private static void sellByNote() {
        ReturnDesk d = Checks.shop(0);
        Checks.text(d, 0, 0, "note 25");
        for (int i = 0; i < 2; i++) {
            d.sell(0, 7, 0, 0, -1);
            d.ask(i, 2, 0, 0, 7, 500);
            C.due("take", d.take(i), 3025);
        }
        d.price(0, 0, 100);
        C.due("paid whole by the note", d.sell(0, 8, 0, 0, 0), 2);
        C.due("left on it", d.note(0), 150);
        C.due("no coins came", d.count(5), 2000);
        d.price(0, 0, 400);
        C.due("as far as it goes", d.sell(0, 8, 0, 0, 0), 3);
        C.due("used up", d.note(0), 0);
        C.due("the rest in coins", d.count(5), 2250);
        C.due("an empty note", d.sell(0, 8, 0, 0, 0), 4);
        C.due("pays nothing", d.count(5), 2650);
        C.due("the other note is whole", d.note(1), 250);
        C.due("price of the sale is whole", d.ofSale(3, 9), 400);
        C.due("note 2", d.sell(0, 8, 0, 0, 2), -1);
    }

    private static void sellFull() {
        ReturnDesk d = new ReturnDesk();
        d.model(1, 10, 1);
        for (int i = 0; i < 4; i++) {
            d.lot(0, 0, 99);
        }
        for (int i = 0; i < 300; i++) {
            C.due("sale", d.sell(i / 99, 1, 0, 0, -1), i);
        }
        C.due("the 301st", d.sell(3, 1, 0, 0, -1), -3);
        C.due("NOT ahead of FULL", d.sell(0, 1, 0, 0, -1), -2);
        C.due("BAD ahead of both", d.sell(0, 1, 0, 61, -1), -1);
        C.due("sale 300 of 300", d.ofSale(300, 0), VOID);
        C.due("keep 300 of 300", d.keep(300), -1);
        C.due("left", d.stock(0, 0), 96);
    }

    private static void gift() {
        ReturnDesk d = Checks.shop(0);
        C.due("no sale", d.gift(0, 1), -1);
        d.sell(0, 1, 0, 0, -1);
        C.due("is 2", d.gift(0, 2), -1);
        C.due("is -1", d.gift(0, -1), -1);
        C.due("sale -1", d.gift(-1, 0), -1);
        C.due("was not", d.gift(0, 1), 0);
        C.due("was", d.gift(0, 1), 1);
        C.due("of the sale", d.ofSale(0, 10), 1);
        C.due("was, now not", d.gift(0, 0), 1);
        C.due("not", d.ofSale(0, 10), 0);
    }

    private static void ofSale() {
        ReturnDesk d = Checks.shop(0);
        d.model(0, 1, 1);
        d.price(1, 0, 55);
        d.lot(1, 3, 9);
        d.hours(25);
        d.sell(0, 1, 0, 60, -1);
        d.sell(1, 4711, 12345, 123456, -1);
        int[] want = {0, 1, 1, 12, 4711, 1234, 56, 345, 25, 55, 0, -1, 1};
        for (int what = 0; what < want.length; what++) {
            C.due("ofSale(1, " + what + ")", d.ofSale(1, what), want[what]);
        }
        C.due("what 13", d.ofSale(1, 13), VOID);
        C.due("what -1", d.ofSale(1, -1), VOID);
        C.due("sale 2", d.ofSale(2, 0), VOID);
        C.due("sale -1", d.ofSale(-1, 0), VOID);
        d.sell(0, 2, 1345, 60, -1);
        C.due("threes: the other model's order", d.ofSale(1, 12), 1);
        d.sell(1, 3, 2345, 1, -1);
        C.due("threes: order and model", d.ofSale(1, 12), 2);
        C.due("threes of the new one", d.ofSale(3, 12), 2);
        d.sell(0, 2, 0, 60, -1);
        C.due("threes without order", d.ofSale(0, 12), 1);
        Checks.text(d, 0, 0, "refund 10");
        d.hours(30);
        d.ask(1, 2, 0, 0, 4711, 1);
        C.due("asked", d.ofSale(1, 0), 1);
        C.due("not back yet", d.ofSale(1, 11), -1);
        d.hours(24);
        d.take(0);
        C.due("back", d.ofSale(1, 0), 2);
        C.due("the day of the taking", d.ofSale(1, 11), 3);
        C.due("threes stay", d.ofSale(3, 12), 2);
        d.keep(0);
        C.due("kept", d.ofSale(0, 0), 3);
    }

    private static void join() {
        ReturnDesk d = Checks.shop(5000);
        C.due("none", d.join(0, 7, 0, 71999), -10);
        d.sell(0, 1, 0, 700, -1);
        d.hours(5);
        d.sell(0, 2, 0, 700, -1);
        d.hours(5);
        d.sell(0, 3, 0, 700, -1);
        d.sell(0, 4, 0, 800, -1);
        C.due("several", d.join(0, 7, 0, 71999), -13);
        C.due("one, both ends count", d.join(0, 7, 5, 5), 1);
        C.due("two", d.join(0, 7, 5, 10), -12);
        C.due("between", d.join(0, 7, 6, 9), -10);
        C.due("the other card", d.join(0, 8, 0, 10), 3);
        C.due("card 0", d.join(0, 0, 0, 10), -1);
        C.due("card 1", d.join(0, 1, 0, 10), -10);
        C.due("card 10000", d.join(0, 10000, 0, 10), -1);
        C.due("card 9999", d.join(0, 9999, 0, 10), -10);
        C.due("from above to", d.join(0, 7, 6, 5), -1);
        C.due("from -1", d.join(0, 7, -1, 5), -1);
        C.due("to 72000", d.join(0, 7, 0, 72000), -1);
        C.due("model 1", d.join(1, 7, 0, 5), -1);
        C.due("model -1", d.join(-1, 7, 0, 5), -1);
        d.keep(0);
        C.due("a kept one is not OUT", d.join(0, 7, 0, 71999), -12);
        d.ask(1, 1, 0, 0, 2, 500);
        C.due("an asked one neither", d.join(0, 7, 0, 71999), 2);
        d.leave(0);
        C.due("a left one is", d.join(0, 7, 0, 71999), -12);
        d.model(0, 1, 1);
        C.due("another model", d.join(1, 7, 0, 71999), -10);
    }

    private static void keep() {
        ReturnDesk d = Checks.shop(5000);
        C.due("no sale", d.keep(0), -1);
        d.sell(0, 1, 0, 0, -1);
        d.sell(0, 1, 0, 0, -1);
        C.due("sale -1", d.keep(-1), -1);
        C.due("kept", d.keep(0), 1);
        C.due("again", d.keep(0), -2);
        C.due("nothing is asked of it", d.ask(0, 2, 0, 0, 1, 500), -2);
        d.ask(1, 2, 0, 0, 1, 500);
        C.due("asked", d.keep(1), -2);
        d.leave(0);
        C.due("left", d.keep(1), 1);
    }
}
