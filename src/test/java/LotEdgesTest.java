/** The edges of promises 28 to 30: on both sides of each, and that a refused call leaves all as it was. */
public final class LotEdgesTest {
    private static final Checks C = new Checks("edges of lots");
    private static final int BAD = -1, NOT = -2, BIG = -4;

    public static void main(String[] args) {
        ofLot();
        soldByThen();
        badByThen();
        badByLeastFault();
        beyond();
        lessThan();
        byThen();
        atMostSixty();
        sixtyOfTheModel();
        sixtyInHalves();
        since();
        sinceDays();
        sinceToday();
        sinceBig();
        C.finish();
    }

    /** Two LOTS of a MODEL at 1000; THE LAW gives a mend. */
    private static Scene lots() {
        return Scene.shop(C).calls("lot(0, 2, 99)").text(0, 0, "worn:refund 1;mend", 0);
    }

    /** Promise 28: a LOT, what 0, 1, a DAY k (0 .. 2999). */
    private static void ofLot() {
        Scene s = Scene.rich(C);
        s.range("ofLot(#, 0, 1)", 0, 1, BAD).range("ofLot(#, 1, 1)", 0, 1, BAD).range("ofLot(0, #, 1)", 0, 1, BAD);
        s.range("ofLot(0, 0, #)", 0, 2999, BAD).range("ofLot(0, 1, #)", 0, 2999, BAD);
        s.due("ofLot(0, 0, 0)", 0).due("ofLot(0, 0, 1)", 6).due("ofLot(0, 1, 0)", 0).due("ofLot(0, 1, 1)", 1);
        s.due("ofLot(1, 0, 2999)", 1).due("ofLot(1, 1, 2999)", 0);
    }

    /** SOLD AS KNOWN on DAY k: what was sold on that DAY too; a LOT of nothing sold; a swap is no SALE. */
    private static void soldByThen() {
        Scene s = lots().due("ofLot(0, 0, 2999)", 0).calls("sell(0, 7, 0, 0, -1)").until(47).calls("sell(0, 7, 0, 0, -1)");
        s.until(48).calls("sell(0, 7, 0, 0, -1)").due("ofLot(0, 0, 0)", 1).due("ofLot(0, 0, 1)", 2).due("ofLot(0, 0, 2)", 3);
        s.due("ofLot(0, 0, 2999)", 3).due("ofLot(1, 0, 2999)", 0).text(0, 0, "swap", 1).takeBack(0, 0, 500, 2100);
        s.due("ofLot(0, 0, 2999)", 3).due("stock(0, 0)", 145).until(71999).calls("sell(1, 7, 0, 0, -1)");
        s.due("ofLot(1, 0, 2998)", 0).due("ofLot(1, 0, 2999)", 1);
    }

    /** BAD on the first such DAY, which is the DAY of the taking, not of the asking. */
    private static void badByThen() {
        Scene s = lots().times(3, "sell(0, 7, 0, 0, -1)").due("ask(0, 2, 0, 110000, 7, 500)", 0).until(47);
        s.due("ofLot(0, 1, 2999)", 0).due("take(0)", 1100).due("ofLot(0, 1, 0)", 0).due("ofLot(0, 1, 1)", 1);
        s.until(48).takeBack(1, 111100, 500, 4001).due("ofLot(0, 1, 1)", 1).due("ofLot(0, 1, 2)", 2).due("ofLot(0, 1, 2999)", 2);
        s.until(72).takeBack(0, 110000, 500, 1100).takeBack(0, 111100, 500, 4001).due("ofLot(0, 1, 3)", 2);
        s.due("ofLot(0, 1, 0)", 0).due("ofLot(0, 1, 1)", 1).due("ofLot(1, 1, 2999)", 0);
        s.until(71999).takeBack(2, 110000, 500, 1100).due("ofLot(0, 1, 2998)", 2).due("ofLot(0, 1, 2999)", 3);
    }

    /** By an ASKING whose least fault is 1: taken, by whatever OUT; LIGHT alone doesn't do, nor one that is left. */
    private static void badByLeastFault() {
        int[] facts = {0, 10000, 110000};
        String[] outs = {"mend", "swap", "note 5", "refund 5"};
        for (int fact : facts) {
            for (String out : outs) {
                Scene s = Scene.shop(C).calls("sell(0, 7, 0, 0, -1)").text(0, 0, out, 0);
                int want = fact == 110000 ? 1 : 0;
                s.due("ask(0, 2, 0, " + fact + ", 7, 300)", 0).due("ofLot(0, 1, 0)", 0).mayBe("take(0)", NOT);
                s.calls("take(0)").due("ofLot(0, 1, 0)", want);
            }
        }
        Scene left = Scene.shop(C).calls("sell(0, 7, 0, 0, -1)").text(0, 0, "worn:mend;no", 0);
        left.due("ask(0, 2, 0, 110000, 7, 500)", 0).refused("take(0)", NOT).due("ofLot(0, 1, 0)", 0);
        left.due("leave(0)", 1).due("ofLot(0, 1, 0)", 0).due("ask(0, 2, 0, 111100, 8, 500)", 1).refused("take(1)", NOT);
        left.due("ofLot(0, 1, 0)", 0).due("leave(1)", 1).takeBack(0, 1100, 500, 1100).due("ofLot(0, 1, 0)", 0);
        left.takeBack(0, 111100, 500, 1100).due("ofLot(0, 1, 0)", 1);
    }

    /** Promise 29: a LOT, p (1 .. 9999), a DAY k (0 .. 2999). */
    private static void beyond() {
        Scene s = Scene.rich(C);
        s.range("beyond(#, 1, 1)", 0, 1, BAD).range("beyond(0, #, 1)", 1, 9999, BAD).range("beyond(0, 1, #)", 0, 2999, BAD);
        s.due("beyond(0, 9999, 1)", 0).due("beyond(1, 9999, 2999)", 0);
    }

    /** Sells n of LOT 0 and m of LOT 1, of which b and c are BAD. */
    private static Scene sold(int n, int b, int m, int c) {
        Scene s = lots().times(n, "sell(0, 7, 0, 0, -1)").times(m, "sell(1, 7, 0, 0, -1)");
        for (int i = 0; i < n + m; i++) {
            if (i < b || i >= n && i < n + c) {
                s.takeBack(i, 110000, 500, 1100);
            }
        }
        return s;
    }

    /** The chance is less than p of 10000: a like one isn't. */
    private static void lessThan() {
        sold(1, 1, 1, 0).due("beyond(0, 5000, 0)", 0).due("beyond(0, 5001, 0)", 1).due("beyond(1, 9999, 0)", 0);
        sold(1, 1, 3, 0).due("beyond(0, 2500, 0)", 0).due("beyond(0, 2501, 0)", 1);
        sold(1, 1, 9, 0).due("beyond(0, 1000, 0)", 0).due("beyond(0, 1001, 0)", 1);
        sold(2, 2, 2, 0).due("beyond(0, 1666, 0)", 0).due("beyond(0, 1667, 0)", 1);
        sold(2, 1, 2, 1).due("beyond(0, 8333, 0)", 0).due("beyond(0, 8334, 0)", 1);
        sold(2, 1, 2, 0).due("beyond(0, 5000, 0)", 0).due("beyond(0, 5001, 0)", 1).due("since(0, 5001)", 0);
        sold(4, 4, 6, 0).due("beyond(0, 47, 0)", 0).due("beyond(0, 48, 0)", 1);
        // All of the LOT's, or none BAD, or nothing sold: sure, which is less than no p.
        sold(2, 2, 0, 0).due("beyond(0, 9999, 0)", 0).due("beyond(1, 9999, 0)", 0);
        sold(2, 0, 2, 0).due("beyond(0, 9999, 0)", 0).due("beyond(1, 9999, 0)", 0);
        sold(0, 0, 2, 2).due("beyond(0, 9999, 0)", 0).due("beyond(1, 9999, 0)", 0);
        sold(0, 0, 0, 0).due("beyond(0, 9999, 0)", 0).due("beyond(0, 1, 2999)", 0);
        sold(3, 3, 3, 3).due("beyond(0, 9999, 0)", 0).due("beyond(1, 9999, 0)", 0);
    }

    /** Of all SALES made on DAY k or ahead, those BAD by then. */
    private static void byThen() {
        Scene s = lots().calls("sell(0, 7, 0, 0, -1)", "sell(1, 7, 0, 0, -1)").until(24).takeBack(0, 110000, 500, 1100);
        s.due("beyond(0, 9999, 0)", 0).due("beyond(0, 5000, 1)", 0).due("beyond(0, 5001, 1)", 1).until(48);
        s.calls("sell(1, 7, 0, 0, -1)").due("beyond(0, 5000, 1)", 0).due("beyond(0, 3333, 2)", 0).due("beyond(0, 3334, 2)", 1);
        s.due("beyond(0, 3334, 2999)", 1).until(72).takeBack(2, 110000, 500, 1100);
        s.due("beyond(0, 3334, 2)", 1).due("beyond(0, 6666, 3)", 0).due("beyond(0, 6667, 3)", 1);
    }

    /** N, at most 60, else BIG; BAD is named ahead of BIG; by the SALES made on DAY k or ahead. */
    private static void atMostSixty() {
        Scene s = lots().times(1, "sell(0, 7, 0, 0, -1)").times(59, "sell(1, 7, 0, 0, -1)").takeBack(0, 110000, 500, 1100);
        // One of 60 is 166.67 of 10000.
        s.due("beyond(0, 166, 0)", 0).due("beyond(0, 167, 0)", 1).due("beyond(1, 9999, 0)", 0).until(24);
        s.due("beyond(0, 167, 1)", 1).calls("sell(1, 7, 0, 0, -1)").due("beyond(0, 167, 0)", 1);
        s.refused("beyond(0, 167, 1)", BIG).refused("beyond(1, 1, 2999)", BIG).refused("beyond(0, 0, 1)", BAD);
        s.refused("beyond(0, 10000, 1)", BAD).refused("beyond(2, 1, 1)", BAD).refused("beyond(0, 1, 3000)", BAD);
    }

    /** N is of the MODEL, whatever the LOTS; another MODEL's SALES don't count. */
    private static void sixtyOfTheModel() {
        Scene s = Scene.shop(C).calls("model(1, 1, 1)", "lot(1, 0, 99)", "lot(0, 0, 99)", "lot(0, 0, 99)");
        s.times(60, "sell(1, 7, 0, 0, -1)").times(30, "sell(2, 7, 0, 0, -1)").times(30, "sell(3, 7, 0, 0, -1)");
        s.due("beyond(0, 9999, 0)", 0).due("beyond(1, 9999, 0)", 0).due("beyond(2, 9999, 0)", 0);
        s.calls("sell(2, 7, 0, 0, -1)").refused("beyond(0, 9999, 0)", BIG).refused("beyond(3, 9999, 0)", BIG);
        s.due("beyond(1, 9999, 0)", 0).calls("sell(1, 7, 0, 0, -1)").refused("beyond(1, 9999, 0)", BIG);
    }

    /** The most ways there are to deal: 30 of 60, all of the 30 BAD ones, or half of them. */
    private static void sixtyInHalves() {
        sold(30, 30, 30, 0).due("beyond(0, 1, 0)", 1).due("since(0, 1)", 0).due("beyond(1, 9999, 0)", 0);
        sold(30, 16, 30, 14).due("beyond(0, 3982, 0)", 0).due("beyond(0, 3983, 0)", 1);
        sold(30, 15, 30, 15).due("beyond(0, 6017, 0)", 0).due("beyond(0, 6018, 0)", 1);
        sold(30, 30, 30, 29).due("beyond(0, 4999, 0)", 0).due("beyond(0, 5000, 0)", 0).due("beyond(0, 5001, 0)", 1);
    }

    /** Promise 30: a LOT, p (1 .. 9999). BAD; NOT. */
    private static void since() {
        Scene s = Scene.rich(C);
        s.range("since(#, 9999)", 0, 1, BAD).range("since(0, #)", 1, 9999, BAD);
        s.refused("since(0, 9999)", NOT).refused("since(1, 9999)", NOT).refused("since(1, 1)", NOT);
    }

    /** The first DAY on which it is, though it is no more; as many DAYS as there were. */
    private static void sinceDays() {
        Scene s = lots().calls("sell(0, 7, 0, 0, -1)", "sell(1, 7, 0, 0, -1)").refused("since(0, 9999)", NOT).until(5 * 24 + 23);
        s.takeBack(0, 110000, 500, 1100).refused("since(0, 5000)", NOT).due("since(0, 5001)", 5).due("since(0, 9999)", 5);
        s.until(7 * 24).times(2, "sell(1, 7, 0, 0, -1)").due("since(0, 2501)", 7).refused("since(0, 2500)", NOT);
        s.due("since(0, 5000)", 7).due("since(0, 5001)", 5).until(9 * 24).takeBack(1, 110000, 500, 1100);
        s.takeBack(2, 110000, 500, 1100).takeBack(3, 110000, 500, 1100).due("beyond(0, 9999, 9)", 0);
        s.due("since(0, 2501)", 7).due("since(0, 5001)", 5).refused("since(1, 9999)", NOT);
    }

    /** 0 .. TODAY: both count. */
    private static void sinceToday() {
        Scene s = sold(1, 1, 1, 0).due("since(0, 5001)", 0).until(71999).due("since(0, 5001)", 0);
        s.calls("sell(1, 7, 0, 0, -1)").due("since(0, 5000)", 2999).due("since(0, 3334)", 2999).refused("since(0, 3333)", NOT);
    }

    /** BIG: N is above 60 ahead of any such DAY, or on it; behind the first such DAY it may be. */
    private static void sinceBig() {
        Scene s = sold(1, 0, 59, 0).until(24).takeBack(0, 110000, 500, 1100).refused("since(0, 166)", NOT);
        s.due("since(0, 167)", 1).until(48).calls("sell(1, 7, 0, 0, -1)").due("since(0, 167)", 1).refused("since(0, 166)", BIG);
        s.refused("since(1, 1)", BIG).refused("since(1, 0)", BAD).refused("since(1, 10000)", BAD).refused("since(2, 1)", BAD);
        Scene t = sold(1, 0, 59, 0).until(24).calls("sell(1, 7, 0, 0, -1)").takeBack(0, 110000, 500, 1100);
        t.refused("since(0, 9999)", BIG).refused("since(1, 9999)", BIG);
        Scene u = sold(1, 0, 59, 0).until(24).calls("sell(1, 7, 0, 0, -1)").until(48).takeBack(0, 110000, 500, 1100);
        u.refused("since(0, 9999)", BIG).due("beyond(0, 9999, 0)", 0);
    }
}
