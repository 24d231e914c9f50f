/** The edges of promises 35 to 40: on both sides of each, and that a refused call leaves all as it was. */
public final class ChartEdgesTest {
    private static final Checks C = new Checks("edges of charts, carriers, counts");
    private static final int BAD = -1, NOT = -2;

    public static void main(String[] args) {
        size();
        sizeNotBack();
        shift();
        shiftByTwoAndThree();
        anotherSize();
        brought();
        damage();
        thirdDay();
        carrier();
        count();
        coinsCounted();
        C.finish();
    }

    /** Promise 35: told 0 .. 2 of a SALE. */
    private static void size() {
        Scene s = Scene.rich(C).range("size(#, 1)", 0, 6, BAD).range("size(0, #)", 0, 2, BAD).range("size(5, #)", 0, 2, BAD);
        s.due("size(0, 0)", 1).due("size(0, 2)", 0).due("size(0, 1)", 2).due("size(0, 1)", 1).due("size(5, 2)", 0);
    }

    /** NOT: it is not BACK; BAD is named ahead of NOT. */
    private static void sizeNotBack() {
        Scene s = Scene.rich(C);
        for (int sale : new int[] {1, 2, 3, 4, 6}) {
            for (int told = 0; told <= 2; told++) {
                s.refused("size(" + sale + ", " + told + ")", NOT);
            }
            s.refused("size(" + sale + ", 3)", BAD).refused("size(" + sale + ", -1)", BAD);
        }
        s.due("take(2)", 2100).due("size(1, 2)", 0).due("sort(5)", 0).due("size(5, 1)", 0);
    }

    /** Promise 36: a MODEL. -9: BAD. */
    private static void shift() {
        Scene.rich(C).range("shift(#)", 0, 1, -9).due("shift(0)", 0).due("shift(1)", 0);
    }

    /** Seven ORDERS of two SIZES each: SALES 0, 2, 4 .. of SIZE 4, and 1, 3, 5 .. of SIZE 5, all BACK. */
    private static Scene ordered() {
        Scene s = Scene.shop(C).text(0, 0, "refund 1", 0);
        for (int order = 1; order <= 7; order++) {
            s.calls("sell(0, 7, " + (4000 + order) + ", 60, -1)", "sell(0, 7, " + (5000 + order) + ", 60, -1)");
        }
        for (int sale = 0; sale < 14; sale++) {
            s.takeBack(sale, 0, 500, 4001);
        }
        return s;
    }

    /** SHIFT: if that is 3 or more 1, if -3 or less -1, else 0. */
    private static void shiftByTwoAndThree() {
        for (int small = 0; small <= 6; small++) {
            for (int great = 0; great <= 6; great++) {
                Scene s = ordered();
                for (int i = 0; i < small + great; i++) {
                    s.due("size(" + i + ", " + (i < small ? 1 : 2) + ")", 0);
                }
                int less = small - great;
                s.due("shift(0)", less >= 3 ? 1 : less <= -3 ? -1 : 0);
            }
        }
        Scene s = ordered().calls("size(0, 1)", "size(1, 1)").due("shift(0)", 0).calls("size(2, 1)").due("shift(0)", 1);
        s.due("size(2, 0)", 1).due("shift(0)", 0).due("size(2, 2)", 0).due("shift(0)", 0);
        s.due("size(0, 2)", 1).due("shift(0)", 0).due("size(1, 2)", 1).due("shift(0)", -1).due("size(1, 0)", 2).due("shift(0)", 0);
    }

    /** Of SALES that are BACK, in whose ORDER (not 0) another SALE of the MODEL has another SIZE, in whatever state. */
    private static void anotherSize() {
        Scene s = Scene.shop(C).calls("model(0, 500, 0)", "lot(1, 0, 9)").text(0, 0, "refund 1", 0);
        // 0 to 2: no ORDER; 3 to 5: one SIZE each; then another SIZE comes, by a MODEL of its own, then by the same.
        s.times(2, "sell(0, 7, 4000, 60, -1)").calls("sell(0, 7, 5000, 60, -1)");
        s.calls("sell(0, 7, 4001, 60, -1)", "sell(0, 7, 4001, 60, -1)", "sell(0, 7, 4001, 60, -1)");
        for (int sale = 0; sale < 6; sale++) {
            s.takeBack(sale, 0, 500, 4001).due("size(" + sale + ", 1)", 0);
        }
        s.due("shift(0)", 0).calls("sell(1, 7, 5001, 60, -1)").due("shift(0)", 0).calls("sell(0, 7, 5002, 60, -1)").due("shift(0)", 0);
        s.calls("sell(0, 7, 5001, 60, -1)").due("shift(0)", 1).due("shift(1)", 0).calls("keep(8)").due("shift(0)", 1);
        s.takeBack(6, 0, 500, 4001).due("size(6, 1)", 0).due("shift(1)", 0);
        // Sizes 0 and 20, orders 999.
        Scene t = Scene.shop(C).text(0, 0, "refund 1", 0).times(3, "sell(0, 7, 999, 60, -1)").calls("sell(0, 7, 20999, 60, -1)");
        for (int sale = 0; sale < 3; sale++) {
            t.due("shift(0)", 0).takeBack(sale, 0, 500, 4001).due("size(" + sale + ", 2)", 0);
        }
        t.due("shift(0)", -1);
    }

    /** Promise 37: a CARRIER (0 .. 4) of a SALE. NOT: it was brought; BAD is named ahead of NOT. */
    private static void brought() {
        Scene s = Scene.rich(C).range("brought(#, 0)", 0, 6, BAD).range("brought(1, #)", 0, 4, BAD).range("brought(0, #)", 0, 4, BAD);
        s.refused("brought(0, 0)", NOT).refused("brought(0, 1)", NOT).refused("brought(3, 2)", NOT).refused("brought(3, 4)", NOT);
        s.due("brought(1, 0)", 1).refused("brought(1, 0)", NOT).refused("brought(1, 4)", NOT).due("brought(2, 4)", 1);
        s.refused("brought(2, 0)", NOT).due("brought(4, 0)", 1).due("brought(5, 0)", 1).due("brought(6, 4)", 1);
        s.due("carrier(0, 0)", 3).due("carrier(1, 0)", 1).due("carrier(2, 0)", 1).due("carrier(3, 0)", 0).due("carrier(4, 0)", 2);
    }

    /** Promise 38: NOT: it was not brought, or is told. */
    private static void damage() {
        Scene s = Scene.rich(C).range("damage(#)", 0, 6, BAD);
        s.refused("damage(0)", NOT).refused("damage(1)", NOT).refused("damage(2)", NOT).refused("damage(4)", NOT);
        s.due("damage(3)", 1).refused("damage(3)", NOT).due("brought(1, 0)", 1).due("damage(1)", 1).refused("damage(1)", NOT);
        s.due("carrier(0, 1)", 1).due("carrier(1, 1)", 1).due("carrier(2, 1)", 1);
        s.until(10 * 24).calls("brought(2, 3)").due("damage(2)", 0).refused("damage(2)", NOT).due("carrier(3, 1)", 0).due("carrier(3, 0)", 1);
    }

    /** By the 3rd DAY behind its own the carrier's, later the buyer's: by DAYS, whatever the HOUR of the SALE. */
    private static void thirdDay() {
        for (int made = 0; made <= 23; made += 23) {
            Scene s = Scene.shop(C).until(24 + made).times(5, "sell(0, 7, 0, 0, -1)");
            for (int sale = 0; sale < 5; sale++) {
                s.calls("brought(" + sale + ", 4)");
            }
            s.due("damage(0)", 1).until(3 * 24 + 23).due("damage(1)", 1).until(4 * 24).due("damage(2)", 1);
            s.until(4 * 24 + 23).due("damage(3)", 1).until(5 * 24).due("damage(4)", 0);
            s.due("carrier(4, 0)", 5).due("carrier(4, 1)", 4);
        }
        // It counts from the SALE, not from the bringing.
        Scene late = Scene.shop(C).calls("sell(0, 7, 0, 0, -1)").until(4 * 24).calls("brought(0, 0)").due("damage(0)", 0);
        late.due("carrier(0, 1)", 0);
        Scene end = Scene.shop(C).until(2996 * 24).calls("sell(0, 7, 0, 0, -1)", "brought(0, 0)").until(71999).due("damage(0)", 1);
        end.calls("sell(0, 7, 0, 0, -1)", "brought(1, 0)").due("damage(1)", 1).due("carrier(0, 1)", 2);
    }

    /** Promise 39: a CARRIER (0 .. 4), what 0, 1. */
    private static void carrier() {
        Scene s = Scene.rich(C).range("carrier(#, 0)", 0, 4, BAD).range("carrier(#, 1)", 0, 4, BAD).range("carrier(0, #)", 0, 1, BAD);
        int[][] want = {{0, 0}, {1, 1}, {1, 0}, {0, 0}, {0, 0}};
        for (int carrier = 0; carrier < want.length; carrier++) {
            s.due("carrier(" + carrier + ", 0)", want[carrier][0]).due("carrier(" + carrier + ", 1)", want[carrier][1]);
        }
    }

    /** Promise 40: what 0 .. 11. */
    private static void count() {
        Scene s = Scene.rich(C).range("count(#)", 0, 11, BAD);
        int[] want = {2, 2, 7, 4, 1, 5000 + 6000 + 200 - 500 - 30, 400, 30, 2, 9, 500, 30};
        for (int what = 0; what < want.length; what++) {
            s.due("count(" + what + ")", want[what]);
        }
    }

    /** 10 coins paid to CARDS and in coins (not by NOTES, nor for mending); 11 spent on mending (for buyers, and sorted so). */
    private static void coinsCounted() {
        Scene s = Scene.shop(C).text(0, 0, "fault:mend;worn:note 50;refund 50", 0);
        s.calls("sell(0, 7, 0, 100, -1)", "sell(0, 7, 0, 0, -1)", "sell(0, 7, 0, 0, -1)", "sell(0, 7, 0, 0, -1)");
        s.takeBack(0, 0, 500, 4050).due("count(10)", 500).takeBack(1, 0, 489, 4050).due("count(10)", 1000).due("count(11)", 0);
        s.takeBack(2, 1100, 500, 3050).due("count(10)", 1000).due("count(6)", 500).takeBack(3, 110000, 500, 1100);
        s.due("count(10)", 1000).due("count(11)", 30).due("sort(1)", 2).due("count(11)", 60).due("sort(0)", 0).due("sort(2)", 1);
        s.due("count(11)", 60).due("count(10)", 1000).due("count(5)", 4000 - 1000 - 60).calls("sell(0, 7, 0, 0, 0)");
        s.due("count(6)", 0).due("count(5)", 2940 + 500).due("count(4)", 1).due("sellUsed(0)", 900).due("count(5)", 4340);
    }
}
