/** The edges of promises 8 to 12: on both sides of each, and that a refused call leaves all as it was. */
public final class SaleEdgesTest {
    private static final Checks C = new Checks("edges of sales");
    private static final int BAD = -1, NOT = -2, FULL = -3, VOID = -2000000000;

    public static void main(String[] args) {
        sell();
        who();
        lastPiece();
        salesFull();
        noteGoesAsFar();
        gift();
        ofSale();
        threes();
        dayOfComingBack();
        join();
        joinHours();
        joinStates();
        keep();
        C.finish();
    }

    /** Promise 8: a NUMBER (1 .. 999999), a SIZE (0 .. 20), an ORDER (0; 1 .. 999), a NOTE (-1: none). */
    private static void sell() {
        Scene s = Scene.rich(C);
        s.range("sell(#, 1, 0, 0, -1)", 0, 1, BAD);
        s.range("sell(0, #, 0, 0, -1)", 1, 999999, BAD);
        s.range("sell(0, 1, #, 0, -1)", 0, 20999, BAD);
        s.range("sell(0, 1, 0, 0, #)", -1, 0, BAD);
        s.refused("sell(0, 1, -1000, 0, -1)", BAD).refused("sell(0, 1, 21999, 0, -1)", BAD);
        s.due("sell(0, 1, 999, 0, -1)", 7).due("ofSale(7, 3)", 0).due("ofSale(7, 7)", 999).due("ofSale(7, 4)", 1);
        s.due("sell(0, 999999, 1000, 0, -1)", 8).due("ofSale(8, 3)", 1).due("ofSale(8, 7)", 0).due("ofSale(8, 4)", 999999);
        s.due("sell(0, 1, 20999, 0, 0)", 9).due("ofSale(9, 3)", 20).due("ofSale(9, 7)", 999).due("note(0)", 0);
    }

    /** who: 100 times CARD (0; 1 .. 9999), and BUYER (0 .. 60). */
    private static void who() {
        Scene s = Scene.rich(C);
        s.range("sell(0, 1, 0, #, -1)", 0, 60, BAD);
        s.range("sell(0, 1, 0, #, -1)", 100, 160, BAD);
        s.range("sell(0, 1, 0, #, -1)", 999900, 999960, BAD);
        s.refused("sell(0, 1, 0, 99, -1)", BAD).refused("sell(0, 1, 0, 199, -1)", BAD);
        s.refused("sell(0, 1, 0, 999999, -1)", BAD).refused("sell(0, 1, 0, 1000000, -1)", BAD);
        s.refused("sell(0, 1, 0, 1000060, -1)", BAD).refused("sell(0, 1, 0, -40, -1)", BAD).refused("sell(0, 1, 0, -100, -1)", BAD);
        s.due("sell(0, 1, 0, 59, -1)", 7).due("ofSale(7, 5)", 0).due("ofSale(7, 6)", 59);
        s.due("sell(1, 1, 0, 999960, -1)", 8).due("ofSale(8, 5)", 9999).due("ofSale(8, 6)", 60);
        s.due("sell(1, 1, 0, 100, -1)", 9).due("ofSale(9, 5)", 1).due("ofSale(9, 6)", 0);
    }

    /** NOT: the LOT has no piece more; BAD is named ahead of NOT. */
    private static void lastPiece() {
        Scene s = new Scene(C).calls("model(0, 1, 0)", "price(0, 0, 10)", "lot(0, 0, 1)", "lot(0, 0, 99)");
        s.due("sell(0, 1, 0, 0, -1)", 0).refused("sell(0, 1, 0, 0, -1)", NOT).due("stock(0, 0)", 99);
        s.refused("sell(0, 0, 0, 0, -1)", BAD).refused("sell(0, 1, 21000, 0, -1)", BAD).refused("sell(0, 1, 0, 61, -1)", BAD);
        s.refused("sell(0, 1, 0, 0, 0)", BAD).refused("sell(0, 1, 0, 0, -2)", BAD);
        for (int i = 1; i <= 99; i++) {
            s.due("sell(1, 1, 0, 0, -1)", i);
        }
        s.refused("sell(1, 1, 0, 0, -1)", NOT).due("stock(0, 0)", 0).due("count(5)", 1000).due("count(2)", 100);
    }

    /** SALES 0 .. 299: FULL; BAD and NOT are named ahead of it. */
    private static void salesFull() {
        Scene s = new Scene(C).calls("model(0, 1, 0)", "price(0, 0, 10)");
        s.calls("lot(0, 0, 1)", "lot(0, 0, 99)", "lot(0, 0, 99)", "lot(0, 0, 99)", "lot(0, 0, 3)");
        for (int i = 0; i < 299; i++) {
            s.due("sell(" + (i == 0 ? 0 : i < 100 ? 1 : i < 199 ? 2 : i < 298 ? 3 : 4) + ", 1, 0, 0, -1)", i);
        }
        s.refused("gift(299, 1)", BAD).refused("ofSale(299, 0)", VOID);
        s.due("sell(4, 999999, 20999, 999960, -1)", 299).due("ofSale(299, 4)", 999999).due("gift(299, 1)", 0);
        s.refused("sell(4, 1, 0, 0, -1)", FULL).refused("sell(3, 1, 0, 0, -1)", NOT).refused("sell(4, 0, 0, 0, -1)", BAD);
        s.refused("sell(3, 1, 0, 99, -1)", BAD).refused("sell(5, 1, 0, 0, -1)", BAD).refused("sell(4, 1, 0, 0, 0)", BAD);
        s.due("count(2)", 300).due("count(5)", 3000).due("stock(0, 0)", 1).due("ofSale(299, 0)", 0);
        s.due("ask(299, 2, 0, 0, 999999, 1)", 0).refused("ask(300, 2, 0, 0, 1, 1)", BAD);
        s.refused("gift(300, 1)", BAD).refused("ofSale(300, 0)", VOID).refused("keep(300)", BAD).refused("sort(300)", BAD);
        s.refused("worth(300, 3)", VOID).refused("size(300, 0)", BAD).refused("brought(300, 0)", BAD);
        s.refused("damage(300)", BAD).refused("inForce(0, 300, 0)", BAD).refused("says(0, 300, 0, 0)", BAD);
        s.due("brought(299, 4)", 1).due("damage(299)", 1);
    }

    /** note: a NOTE that pays as far as it goes. */
    private static void noteGoesAsFar() {
        Scene s = Scene.shop(C).text(0, 0, "note 100", 0).calls("price(0, 0, 500)", "sell(0, 1, 0, 0, -1)");
        s.takeBack(0, 0, 500, 3100).due("note(0)", 500).due("count(5)", 500);
        s.calls("price(0, 0, 499)").due("sell(0, 1, 0, 0, 0)", 1).due("note(0)", 1).due("count(5)", 500);
        s.calls("price(0, 0, 1)").due("sell(0, 1, 0, 0, 0)", 2).due("note(0)", 0).due("count(5)", 500);
        s.due("sell(0, 1, 0, 0, 0)", 3).due("note(0)", 0).due("count(5)", 501).due("ofSale(3, 9)", 1);
        s.calls("price(0, 0, 0)").due("sell(0, 1, 0, 0, 0)", 4).due("count(5)", 501);
        s.refused("sell(0, 1, 0, 0, 1)", BAD);
        s.calls("price(0, 0, 300)", "sell(0, 1, 0, 0, -1)").takeBack(5, 0, 500, 3100).due("count(5)", 801);
        s.calls("price(0, 0, 301)").due("sell(0, 1, 0, 0, 1)", 6).due("note(1)", 0).due("count(5)", 802);
        s.due("ofSale(6, 9)", 301).due("count(6)", 0);
    }

    /** Promise 9: GIFT (1) or not (0). */
    private static void gift() {
        Scene s = Scene.rich(C);
        s.range("gift(#, 1)", 0, 6, BAD).range("gift(0, #)", 0, 1, BAD);
        s.due("gift(6, 1)", 0).due("gift(6, 0)", 1).due("gift(6, 0)", 0).due("gift(4, 1)", 0).due("ofSale(4, 10)", 1);
    }

    /** Promise 10: what 0 .. 12. VOID: BAD. */
    private static void ofSale() {
        Scene s = Scene.rich(C);
        for (int what = 0; what <= 12; what++) {
            s.range("ofSale(#, " + what + ")", 0, 6, VOID);
        }
        s.range("ofSale(0, #)", 0, 12, VOID).range("ofSale(6, #)", 0, 12, VOID);
        int[] states = {2, 1, 0, 0, 3, 2, 0};
        for (int sale = 0; sale < states.length; sale++) {
            s.due("ofSale(" + sale + ", 0)", states[sale]);
        }
        s.due("ofSale(0, 12)", 2).due("ofSale(2, 12)", 1).due("ofSale(0, 8)", 30).due("ofSale(0, 9)", 1000);
    }

    /** threes: how many SALES have its ORDER and MODEL, itself too; 1 without ORDER. */
    private static void threes() {
        Scene s = Scene.shop(C).calls("model(0, 1, 0)", "lot(1, 0, 9)", "lot(0, 0, 9)");
        s.calls("sell(0, 1, 0, 0, -1)", "sell(0, 1, 0, 0, -1)", "sell(0, 1, 1, 0, -1)").due("ofSale(0, 12)", 1);
        s.due("ofSale(2, 12)", 1).calls("sell(1, 1, 1, 0, -1)").due("ofSale(2, 12)", 1).due("ofSale(3, 12)", 1);
        s.calls("sell(2, 1, 5001, 7, -1)").due("ofSale(2, 12)", 2).due("ofSale(4, 12)", 2).due("ofSale(3, 12)", 1);
        s.calls("sell(0, 1, 2, 0, -1)", "sell(0, 1, 999, 0, -1)", "sell(0, 1, 1999, 0, -1)").due("ofSale(7, 12)", 2);
        s.due("ofSale(5, 12)", 1).calls("keep(6)").due("ofSale(7, 12)", 2);
    }

    /** 11 the DAY when it came BACK (-1). */
    private static void dayOfComingBack() {
        Scene s = Scene.shop(C).text(0, 0, "worn:mend;refund 1", 0).calls("sell(0, 1, 0, 0, -1)", "sell(0, 2, 0, 0, -1)");
        s.due("ofSale(0, 11)", -1).takeBack(0, 1100, 500, 1100).due("ofSale(0, 11)", -1);
        s.takeBack(0, 0, 500, 4001).due("ofSale(0, 11)", 0).until(71998).due("ofSale(0, 11)", 0);
        s.due("ofSale(1, 11)", -1).takeBack(1, 0, 500, 4001).due("ofSale(1, 11)", 2999);
    }

    /** Promise 11: a MODEL, a CARD (not 0) and HOURS. */
    private static void join() {
        Scene s = Scene.rich(C);
        s.range("join(#, 2, 0, 71999)", 0, 1, BAD);
        s.range("join(0, #, 0, 71999)", 1, 9999, BAD);
        s.range("join(0, 2, #, 71999)", 0, 71999, BAD);
        s.range("join(0, 2, 0, #)", 0, 71999, BAD);
        s.range("join(0, 2, 30, #)", 30, 71999, BAD);
        s.range("join(0, 2, #, 30)", 0, 30, BAD);
        s.due("join(0, 9999, 0, 71999)", -10);
        s.calls("sell(0, 1, 0, 999900, -1)").due("join(0, 9999, 0, 71999)", 7).due("join(0, 9998, 0, 71999)", -10);
        s.calls("sell(0, 1, 0, 60, -1)").refused("join(0, 0, 0, 71999)", BAD).due("join(1, 9999, 0, 71999)", -10);
    }

    /** Made in an HOUR a .. b: both count; just one: that; none or several: told how many. */
    private static void joinHours() {
        Scene s = Scene.shop(C).until(10).calls("sell(0, 1, 0, 500, -1)").until(20).calls("sell(0, 1, 0, 500, -1)");
        s.until(30).calls("sell(0, 1, 0, 500, -1)");
        s.due("join(0, 5, 0, 9)", -10).due("join(0, 5, 0, 10)", 0).due("join(0, 5, 10, 10)", 0).due("join(0, 5, 10, 19)", 0);
        s.due("join(0, 5, 11, 19)", -10).due("join(0, 5, 11, 20)", 1).due("join(0, 5, 10, 20)", -12);
        s.due("join(0, 5, 20, 30)", -12).due("join(0, 5, 20, 29)", 1).due("join(0, 5, 21, 71999)", 2);
        s.due("join(0, 5, 30, 71999)", 2).due("join(0, 5, 31, 71999)", -10).due("join(0, 5, 0, 71999)", -13);
        s.times(47, "sell(0, 1, 0, 600, -1)").due("join(0, 6, 30, 30)", -57);
    }

    /** Only SALES that are OUT. */
    private static void joinStates() {
        Scene s = Scene.shop(C).text(0, 0, "worn:mend;refund 1", 0).times(4, "sell(0, 1, 0, 500, -1)");
        s.due("join(0, 5, 0, 0)", -14).calls("keep(0)").due("join(0, 5, 0, 0)", -13);
        s.calls("ask(1, 2, 0, 0, 1, 500)").due("join(0, 5, 0, 0)", -12).due("take(0)", 4001).due("join(0, 5, 0, 0)", -12);
        s.calls("ask(2, 2, 0, 0, 1, 500)").due("join(0, 5, 0, 0)", 3).due("leave(1)", 1).due("join(0, 5, 0, 0)", -12);
        s.takeBack(2, 1100, 500, 1100).due("join(0, 5, 0, 0)", -12).calls("keep(2)").due("join(0, 5, 0, 0)", 3);
        s.calls("keep(3)").due("join(0, 5, 0, 0)", -10);
    }

    /** Promise 12: a SALE that is OUT. BAD, NOT. */
    private static void keep() {
        Scene s = Scene.rich(C);
        s.range("keep(#)", 0, 6, BAD);
        s.refused("keep(0)", NOT).refused("keep(1)", NOT).refused("keep(4)", NOT).refused("keep(5)", NOT);
        s.due("keep(2)", 1).refused("keep(2)", NOT).due("ofSale(2, 0)", 3).refused("ask(2, 2, 0, 0, 13, 100)", NOT);
        s.due("keep(6)", 1).refused("keep(6)", NOT).refused("ask(6, 2, 0, 0, 17, 500)", NOT);
        s.due("leave(2)", 1).due("keep(1)", 1).refused("keep(1)", NOT);
        // KEPT FOR GOOD: what is told of it besides goes on.
        s.due("gift(6, 1)", 0).due("brought(6, 0)", 1).due("damage(6)", 1).refused("size(6, 1)", NOT).refused("sort(6)", NOT);
    }
}
