/** The edges of promises 1 to 7: on both sides of each, and that a refused call leaves all as it was. */
public final class ModelEdgesTest {
    private static final Checks C = new Checks("edges of models, lots, time");
    private static final int BAD = -1, NOT = -2, FULL = -3, VOID = -2000000000;

    public static void main(String[] args) {
        newObject();
        model();
        modelsFull();
        price();
        pricesFull();
        priceOn();
        lot();
        lotsFull();
        hours();
        hoursBeyond();
        daysOfHours();
        till();
        C.finish();
    }

    /** Promise 1: HOUR 0, no models, an empty TILL; so nothing else can be there. */
    private static void newObject() {
        Scene s = new Scene(C);
        for (int what = 0; what <= 11; what++) {
            s.due("count(" + what + ")", 0);
        }
        s.refused("price(0, 0, 1)", BAD).refused("priceOn(0, 0)", BAD).refused("lot(0, 0, 1)", BAD);
        s.refused("sell(0, 1, 0, 0, -1)", BAD).refused("gift(0, 1)", BAD).refused("ofSale(0, 0)", VOID);
        s.refused("join(0, 1, 0, 0)", BAD).refused("keep(0)", BAD).refused("end(1)", BAD);
        s.refused("inForce(0, 0, 0)", BAD).refused("says(0, 0, 0, 0)", BAD).refused("ask(0, 2, 0, 0, 1, 0)", BAD);
        s.refused("judged(0, 0, 0)", BAD).refused("ofAsking(0, 0)", VOID).refused("take(0)", BAD).refused("leave(0)", BAD);
        s.refused("note(0)", BAD).refused("stock(0, 0)", BAD).refused("worth(0, 3)", VOID).refused("sort(0)", BAD);
        s.refused("sellUsed(0)", BAD).refused("ofLot(0, 0, 0)", BAD).refused("beyond(0, 1, 0)", BAD);
        s.refused("since(0, 1)", BAD).refused("tried(0)", NOT).refused("hits(0)", NOT).refused("size(0, 0)", BAD);
        s.refused("shift(0)", -9).refused("brought(0, 0)", BAD).refused("damage(0)", BAD);
        for (int carrier = 0; carrier <= 4; carrier++) {
            s.due("carrier(" + carrier + ", 0)", 0).due("carrier(" + carrier + ", 1)", 0);
        }
        s.due("honest(0, 2)", 2).due("honest(59, 2)", 2).due("end(0)", 0).due("text(0, 0)", -100).due("limit()", -100);
    }

    /** Promise 2, of a KIND (0 .. 9), a WEIGHT (1 .. 99999), a MEND price (0 .. 9999). */
    private static void model() {
        Scene s = Scene.rich(C);
        s.range("model(#, 1, 0)", 0, 9, BAD);
        s.range("model(0, #, 0)", 1, 99999, BAD);
        s.range("model(0, 1, #)", 0, 9999, BAD);
        s.due("model(0, 1, 0)", 2).due("model(9, 99999, 9999)", 3).due("count(0)", 4);
    }

    /** MODELS 0 .. 19; BAD is named ahead of FULL. */
    private static void modelsFull() {
        Scene s = new Scene(C);
        for (int i = 0; i < 19; i++) {
            s.due("model(1, 2, 3)", i);
        }
        s.refused("price(19, 0, 1)", BAD).refused("lot(19, 0, 1)", BAD).refused("stock(19, 0)", BAD);
        s.due("model(9, 99999, 9999)", 19);
        s.refused("model(0, 1, 0)", FULL).refused("model(10, 1, 0)", BAD).refused("model(0, 0, 0)", BAD);
        s.refused("model(0, 1, 10000)", BAD).due("count(0)", 20);
        s.due("price(19, 0, 7)", 1).due("priceOn(19, 0)", 7).due("lot(19, 0, 1)", 0).due("stock(19, 0)", 1);
        s.due("sellUsed(19)", NOT).due("shift(19)", 0).due("join(19, 1, 0, 0)", -10);
        s.refused("price(20, 0, 1)", BAD).refused("priceOn(20, 0)", BAD).refused("lot(20, 0, 1)", BAD);
        s.refused("stock(20, 0)", BAD).refused("sellUsed(20)", BAD).refused("shift(20)", -9);
        s.refused("join(20, 1, 0, 0)", BAD);
    }

    /** Promise 3: A PRICE (0 .. 99999) for DAYS from one on (0 .. 2999). */
    private static void price() {
        Scene s = Scene.rich(C);
        s.range("price(#, 0, 1)", 0, 1, BAD);
        s.range("price(0, #, 1)", 0, 2999, BAD);
        s.range("price(0, 0, #)", 0, 99999, BAD);
        s.due("price(0, 0, 0)", 2).due("priceOn(0, 0)", 0);
        s.due("price(0, 0, 99999)", 3).due("priceOn(0, 0)", 99999).due("price(1, 2999, 1)", 2).due("priceOn(1, 2999)", 1);
        s.due("sell(0, 1, 0, 0, -1)", 7).due("ofSale(7, 9)", 99999);
    }

    /** FULL: 20, of each MODEL; BAD is named ahead of FULL. */
    private static void pricesFull() {
        Scene s = new Scene(C).calls("model(0, 1, 0)", "model(0, 1, 0)");
        for (int i = 1; i <= 19; i++) {
            s.due("price(0, 5, " + i + ")", i);
        }
        s.due("price(0, 5, 700)", 20).due("priceOn(0, 5)", 700);
        s.refused("price(0, 5, 800)", FULL).refused("price(0, 0, 0)", FULL).refused("price(0, 3000, 1)", BAD);
        s.refused("price(0, 0, 100000)", BAD).refused("price(0, -1, 1)", BAD);
        s.due("priceOn(0, 5)", 700).due("priceOn(0, 4)", 0).due("price(1, 0, 9)", 1);
    }

    /** Promise 4: the one told for the latest DAY not behind counts, of several the one told last; 0 ahead of all. */
    private static void priceOn() {
        Scene.rich(C).range("priceOn(#, 0)", 0, 1, BAD).range("priceOn(0, #)", 0, 2999, BAD);
        Scene s = new Scene(C).calls("model(0, 1, 0)").due("priceOn(0, 0)", 0).due("priceOn(0, 2999)", 0);
        s.calls("price(0, 100, 11)").due("priceOn(0, 99)", 0).due("priceOn(0, 100)", 11).due("priceOn(0, 2999)", 11);
        s.calls("price(0, 50, 22)").due("priceOn(0, 49)", 0).due("priceOn(0, 50)", 22);
        s.due("priceOn(0, 99)", 22).due("priceOn(0, 100)", 11).due("priceOn(0, 101)", 11);
        s.calls("price(0, 50, 33)").due("priceOn(0, 99)", 33).due("priceOn(0, 100)", 11);
        s.calls("price(0, 100, 44)").due("priceOn(0, 100)", 44);
        s.calls("price(0, 50, 55)").due("priceOn(0, 100)", 44).due("priceOn(0, 99)", 55);
        s.calls("price(0, 2999, 66)").due("priceOn(0, 2998)", 44).due("priceOn(0, 2999)", 66);
        s.calls("price(0, 0, 77)").due("priceOn(0, 0)", 77).due("priceOn(0, 49)", 77).due("priceOn(0, 50)", 55);
    }

    /** Promise 5: a LOT of n (1 .. 99) pieces, of a MAKER (0 .. 9). */
    private static void lot() {
        Scene s = Scene.rich(C);
        s.range("lot(#, 0, 1)", 0, 1, BAD);
        s.range("lot(0, #, 1)", 0, 9, BAD);
        s.range("lot(0, 0, #)", 1, 99, BAD);
        s.due("stock(1, 0)", 8).due("lot(1, 9, 99)", 2).due("stock(1, 0)", 107);
        s.due("lot(1, 0, 1)", 3).due("stock(1, 0)", 108).due("count(1)", 4);
    }

    /** LOTS 0 .. 59; BAD is named ahead of FULL. */
    private static void lotsFull() {
        Scene s = new Scene(C).calls("model(0, 1, 0)");
        for (int i = 0; i < 59; i++) {
            s.due("lot(0, 0, 2)", i);
        }
        s.refused("sell(59, 1, 0, 0, -1)", BAD).refused("ofLot(59, 0, 0)", BAD);
        s.due("lot(0, 9, 1)", 59).due("stock(0, 0)", 119);
        s.refused("lot(0, 0, 1)", FULL).refused("lot(0, 10, 1)", BAD).refused("lot(0, 0, 0)", BAD);
        s.refused("lot(0, 0, 100)", BAD).refused("lot(1, 0, 1)", BAD);
        s.due("stock(0, 0)", 119).due("count(1)", 60);
        s.due("sell(59, 1, 0, 0, -1)", 0).due("ofSale(0, 2)", 59).due("ofLot(59, 0, 0)", 1);
        s.due("beyond(59, 1, 0)", 0).due("since(59, 1)", NOT);
        s.refused("sell(60, 1, 0, 0, -1)", BAD).refused("ofLot(60, 0, 0)", BAD).refused("beyond(60, 1, 0)", BAD);
        s.refused("since(60, 1)", BAD);
    }

    /** Promise 6: n (1 .. 2400) HOURS go by. */
    private static void hours() {
        Scene s = Scene.rich(C);
        s.range("hours(#)", 1, 2400, BAD);
        s.due("hours(1)", 31).due("hours(2400)", 2431);
    }

    /** BAD (also beyond 71999). */
    private static void hoursBeyond() {
        Scene s = Scene.shop(C).until(69600);
        s.mayBe("hours(2399)", BAD).refused("hours(2400)", BAD);
        s.due("hours(2398)", 71998).mayBe("hours(1)", BAD).refused("hours(2)", BAD).refused("hours(2400)", BAD);
        s.due("hours(1)", 71999).refused("hours(1)", BAD).refused("hours(2400)", BAD).refused("hours(0)", BAD);
        s.due("sell(0, 1, 0, 100, -1)", 0).due("ofSale(0, 8)", 71999).due("join(0, 1, 71999, 71999)", 0);
        s.due("ask(0, 2, 0, 0, 1, 500)", 0).due("ofAsking(0, 2)", 2999);
    }

    /** HOUR a count of hours, 24 a DAY: a DAY has its hours 0 to 23. */
    private static void daysOfHours() {
        Scene s = Scene.shop(C).calls("price(0, 1, 600)", "price(0, 2, 300)").until(23);
        s.due("sell(0, 1, 0, 0, -1)", 0).due("ofSale(0, 9)", 1000).due("hours(1)", 24);
        s.due("sell(0, 1, 0, 0, -1)", 1).due("ofSale(1, 9)", 600).due("hours(23)", 47);
        s.due("sell(0, 1, 0, 0, -1)", 2).due("ofSale(2, 9)", 600).due("hours(1)", 48);
        s.due("sell(0, 1, 0, 0, -1)", 3).due("ofSale(3, 9)", 300);
        s.due("ofLot(0, 0, 0)", 1).due("ofLot(0, 0, 1)", 3).due("ofLot(0, 0, 2)", 4);
    }

    /** Promise 7: So many coins (1 .. 999999) come to THE TILL. */
    private static void till() {
        Scene s = Scene.rich(C);
        s.range("till(#)", 1, 999999, BAD);
        Scene.shop(C).due("count(5)", 0).due("till(1)", 1).due("till(999999)", 1000000).due("count(5)", 1000000);
        Scene most = new Scene(C);
        for (int i = 1; i <= 511; i++) {
            most.due("till(999999)", 999999 * i);
        }
        most.due("count(5)", 999999 * 511);
    }
}
