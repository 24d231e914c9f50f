/** The edges of promises 18 to 23: on both sides of each, and that a refused call leaves all as it was. */
public final class AskingEdgesTest {
    private static final Checks C = new Checks("edges of askings");
    private static final int BAD = -1, NOT = -2, FULL = -3, VOID = -2000000000;

    public static void main(String[] args) {
        ask();
        spanOfDays();
        spansOfFacts();
        askNotOut();
        askingsFull();
        daysThatWere();
        endsOfSpans();
        firstOfLikeOnes();
        worthsWithTheRestAway();
        openOnes();
        judged();
        asKnown();
        ofAsking();
        swapped();
        light();
        take();
        takenOnItsDay();
        takeNo();
        tillJustEnough();
        mendJustEnough();
        noteInstead();
        refundOfNothing();
        swapsUpToTheLast();
        leave();
        note();
        mostNotes();
        C.finish();
    }

    /** Promise 18: a PROOF (0 .. 2), brought 1 .. 999999, grams 0 .. 199999, of a SALE. */
    private static void ask() {
        Scene s = Scene.rich(C);
        s.range("ask(#, 2, 0, 0, 14, 500)", 0, 6, BAD);
        s.range("ask(3, #, 0, 0, 14, 500)", 0, 2, BAD);
        s.range("ask(3, 2, 0, 0, #, 500)", 1, 999999, BAD);
        s.range("ask(3, 2, 0, 0, 14, #)", 0, 199999, BAD);
        s.due("ask(2, 0, 0, 0, 1, 0)", 4).due("ask(3, 2, 0, 0, 999999, 199999)", 5).due("ask(6, 1, 0, 0, 17, 500)", 6);
        s.due("ofAsking(4, 1)", 0).due("ofAsking(5, 1)", 2).due("ofAsking(6, 1)", 1).due("count(3)", 7);
    }

    /** days 0 .. 999, at most 60 from the least to the greatest; BAD also a span from above to; with every PROOF. */
    private static void spanOfDays() {
        Scene s = Scene.rich(C);
        int[] taken = {0, 1, 60, 1001, 1061, 499499, 500560, 939999, 940999, 998999, 999999};
        int[] bad = {61, 62, 999, 1000, 1062, 2001, 500499, 500561, 938999, 999000, 999998, 1000000, 1000999, 1001001,
            -1, -60, -1000, -999999, Integer.MIN_VALUE, Integer.MAX_VALUE};
        for (int proof = 0; proof <= 2; proof++) {
            for (int days : taken) {
                s.mayBe("ask(3, " + proof + ", " + days + ", 0, 14, 500)", BAD);
            }
            for (int days : bad) {
                s.refused("ask(3, " + proof + ", " + days + ", 0, 14, 500)", BAD);
            }
        }
    }

    /** facts: six digits, least and greatest of fault (0, 1), of worn (0 .. 9), of opened (0, 1). */
    private static void spansOfFacts() {
        Scene s = Scene.rich(C);
        int[] taken = {0, 1, 11, 100, 900, 1100, 8900, 9900, 10000, 110000, 10901, 119911};
        int[] bad = {2, 10, 12, 19, 21, 22, 99, 1000, 2100, 9000, 9800, 20000, 90000, 100000, 120000, 200000, 210000, 220000,
            119912, 119810, 999999, 1000000, 1119911, -1, -11, -100, -10000, Integer.MIN_VALUE, Integer.MAX_VALUE};
        for (int facts : taken) {
            s.mayBe("ask(3, 2, 0, " + facts + ", 14, 500)", BAD);
        }
        for (int facts : bad) {
            s.refused("ask(3, 2, 0, " + facts + ", 14, 500)", BAD);
        }
    }

    /** NOT: the SALE is not OUT; BAD is named ahead of NOT. */
    private static void askNotOut() {
        Scene s = Scene.rich(C);
        int[] numbers = {11, 12, 13, 14, 15, 16, 17};
        for (int sale : new int[] {0, 1, 4, 5}) {
            s.refused("ask(" + sale + ", 2, 0, 0, " + numbers[sale] + ", 500)", NOT);
            s.refused("ask(" + sale + ", 3, 0, 0, " + numbers[sale] + ", 500)", BAD);
            s.refused("ask(" + sale + ", 2, 61, 0, " + numbers[sale] + ", 500)", BAD);
            s.refused("ask(" + sale + ", 2, 0, 10, " + numbers[sale] + ", 500)", BAD);
            s.refused("ask(" + sale + ", 2, 0, 0, 0, 500)", BAD);
            s.refused("ask(" + sale + ", 2, 0, 0, " + numbers[sale] + ", 200000)", BAD);
        }
        s.due("leave(2)", 1).due("ask(1, 2, 0, 0, 12, 500)", 4).refused("ask(1, 2, 0, 0, 12, 500)", NOT);
    }

    /** AN ASKING (0 .. 199): FULL; BAD and NOT are named ahead of it. */
    private static void askingsFull() {
        Scene s = Scene.shop(C).calls("sell(0, 7, 0, 0, -1)", "sell(0, 8, 0, 0, -1)", "sell(0, 9, 0, 0, -1)");
        for (int i = 0; i < 199; i++) {
            s.due("ask(0, 0, 0, 0, 7, 500)", i).due("leave(" + i + ")", 1);
        }
        s.refused("leave(199)", BAD).refused("ofAsking(199, 0)", VOID);
        s.due("ask(1, 1, 0, 0, 8, 500)", 199).due("ofAsking(199, 0)", 1);
        s.refused("ask(0, 0, 0, 0, 7, 500)", FULL).refused("ask(2, 2, 0, 0, 9, 500)", FULL);
        s.refused("ask(1, 0, 0, 0, 8, 500)", NOT).refused("ask(0, 3, 0, 0, 7, 500)", BAD).refused("ask(3, 0, 0, 0, 7, 500)", BAD);
        s.refused("ask(0, 0, 61, 0, 7, 500)", BAD).refused("ask(1, 0, 0, 0, 0, 500)", BAD);
        s.due("count(3)", 200).due("ofSale(0, 0)", 0).due("ofSale(1, 0)", 1).due("ofSale(2, 0)", 0);
        s.refused("leave(200)", BAD).refused("take(200)", BAD).refused("judged(200, 0, 0)", BAD).refused("ofAsking(200, 0)", VOID);
        s.due("judged(199, 0, 0)", 0).due("leave(199)", 1).due("ofSale(1, 0)", 0).refused("ask(1, 0, 0, 0, 8, 500)", FULL);
    }

    /** With PROOF 1 or 2 just those days that were, whatever is told; by DAYS, not by 24 hours. */
    private static void daysThatWere() {
        Scene s = Scene.shop(C).until(23).times(6, "sell(0, 7, 0, 0, -1)").text(0, 0, "refund days", 0);
        s.due("ask(0, 2, 50060, 0, 7, 500)", 0).due("judged(0, 0, 0)", 4000).due("judged(0, 0, 1)", 4000);
        s.until(24).due("ask(1, 1, 50060, 0, 7, 500)", 1).due("judged(1, 1, 0)", 4001).due("judged(1, 1, 1)", 4001);
        s.due("ask(2, 0, 50060, 0, 7, 500)", 2).due("judged(2, 1, 0)", 4060).due("judged(2, 1, 1)", 4050);
        s.until(47).due("ask(3, 2, 60, 0, 7, 500)", 3).due("judged(3, 1, 0)", 4001).due("ofAsking(3, 3)", 0);
        s.until(48).due("ask(4, 2, 60, 0, 7, 500)", 4).due("judged(4, 2, 0)", 4002).due("judged(4, 2, 1)", 4002);
        s.until(71999).text(0, 0, "refund days-2900", 1).due("ask(5, 1, 0, 0, 7, 500)", 5).due("judged(5, 2999, 0)", 4099);
        s.due("judged(4, 2998, 0)", 4002).due("judged(4, 2999, 0)", 4000);
        Scene t = Scene.shop(C).until(3 * 24 + 23).times(2, "sell(0, 7, 0, 0, -1)").text(0, 0, "refund days", 0).until(5 * 24);
        t.due("ask(0, 2, 0, 0, 7, 500)", 0).due("judged(0, 5, 0)", 4002).due("judged(0, 5, 1)", 4002).until(7 * 24);
        t.due("judged(0, 7, 0)", 4002).due("ask(1, 1, 0, 0, 7, 500)", 1).due("judged(1, 7, 0)", 4004).due("judged(1, 7, 1)", 4004);
    }

    /** Each from a least to a greatest: both ends are FACTS, what is beside them isn't. */
    private static void endsOfSpans() {
        String[] names = {"days", "fault", "worn", "opened"};
        int[][] wide = {{100, 160}, {0, 1}, {3, 8}, {0, 1}};
        int[][] narrow = {{0, 0}, {1, 1}, {9, 9}, {1, 1}};
        for (int v = 938; v <= 1000; v++) {
            bestAndWorst("days", v, "ask(0, 0, 939999, 0, 7, 500)", v >= 939 && v <= 999, false);
        }
        for (int i = 0; i < names.length; i++) {
            for (int v = wide[i][0] - 1; v <= wide[i][1] + 1; v++) {
                bestAndWorst(names[i], v, "ask(0, 0, 100160, 13801, 7, 500)", within(v, wide[i]), false);
            }
            for (int v = narrow[i][0] - 1; v <= narrow[i][1] + 1; v++) {
                bestAndWorst(names[i], v, "ask(0, 0, 0, 119911, 7, 500)", within(v, narrow[i]), within(v, narrow[i]));
            }
        }
    }

    private static boolean within(int v, int[] span) {
        return v >= span[0] && v <= span[1];
    }

    /** A TEXT that gives more for one value of a fact: whether some of the FACTS have it, and whether all have. */
    private static void bestAndWorst(String name, int value, String ask, boolean some, boolean all) {
        Scene s = Scene.shop(C).calls("sell(0, 7, 0, 0, -1)");
        s.text(1, 0, name + "=" + (value < 0 ? "0-1" : String.valueOf(value)) + ":refund 70;refund 60", 0).due(ask, 0);
        s.due("judged(0, 0, 0)", some ? 4070 : 4060).due("judged(0, 0, 1)", all ? 4070 : 4060);
        s.due("ofAsking(0, 3)", some && !all ? 1 : 0).due("ofAsking(0, 9)", 1);
    }

    private static Scene judgedBy(String law, String word, int price, int days, int facts) {
        Scene s = Scene.shop(C).calls("price(0, 0, " + price + ")", "sell(0, 7, 0, 0, -1)");
        s.text(0, 0, law, 0).text(1, 0, word, 1);
        return s.due("ask(0, 0, " + days + ", " + facts + ", 7, 500)", 0);
    }

    /** Of like ones THE LAW's; THE BEST and THE WORST: of like ones the first (days, then fault, worn, opened rising). */
    private static void firstOfLikeOnes() {
        judgedBy("note 100", "refund 90", 1000, 0, 0).due("judged(0, 0, 0)", 3100).due("ofAsking(0, 9)", 0);
        judgedBy("note 100", "refund 91", 1000, 0, 0).due("judged(0, 0, 0)", 4091).due("ofAsking(0, 9)", 1);
        judgedBy("note 100", "refund 89", 1000, 0, 0).due("judged(0, 0, 0)", 3100).due("ofAsking(0, 9)", 0);
        judgedBy("no", "refund 0", 1000, 0, 0).due("judged(0, 0, 0)", 0).due("take(0)", NOT);
        judgedBy("refund 0", "no", 1000, 0, 0).due("judged(0, 0, 0)", 4000).due("take(0)", 4000);
        judgedBy("swap", "refund 80", 1000, 0, 0).due("judged(0, 0, 0)", 2100);
        judgedBy("mend", "refund 60", 1000, 0, 0).due("judged(0, 0, 0)", 1100);
        judgedBy("mend", "refund 61", 1000, 0, 0).due("judged(0, 0, 0)", 4061);
        judgedBy("mend", "swap", 1000, 0, 0).due("judged(0, 0, 0)", 2100);
        judgedBy("days<5:note 100;refund 90", "no", 1000, 60, 0).due("judged(0, 0, 0)", 3100).due("judged(0, 0, 1)", 3100);
        judgedBy("days<1:refund 90;note 100", "no", 1000, 60, 0).due("judged(0, 0, 0)", 4090).due("judged(0, 0, 1)", 4090);
        judgedBy("days=60:refund 91;days:note 100;refund 90", "no", 1000, 60, 0).due("judged(0, 0, 0)", 4091)
            .due("judged(0, 0, 1)", 4090);
        // The first with a WORTH of 900 by that order, behind all 0: opened, then worn, then fault, then days.
        judgedBy("opened:note 100;worn:refund 90", "no", 1000, 1, 10101).due("judged(0, 0, 0)", 3100);
        judgedBy("worn and not opened:note 100;fault:refund 90", "no", 1000, 1, 10101).due("judged(0, 0, 0)", 3100);
        judgedBy("fault:note 100;days:refund 90", "no", 1000, 1, 10101).due("judged(0, 0, 0)", 3100);
        judgedBy("days:note 100;fault:refund 90", "no", 1000, 1, 10101).due("judged(0, 0, 0)", 4090);
        judgedBy("fault:note 100;worn:refund 90", "no", 1000, 1, 10101).due("judged(0, 0, 0)", 4090);
        judgedBy("worn:note 100;opened:refund 90", "no", 1000, 1, 10101).due("judged(0, 0, 0)", 4090);
        judgedBy("1-opened:note 100;worn=0:refund 90", "swap", 1000, 1, 10101).due("judged(0, 0, 1)", 2100);
        judgedBy("opened=0 and worn=0 and fault=0:swap;worn:refund 70;note 70", "no", 1000, 1, 10101)
            .due("judged(0, 0, 0)", 2100).due("judged(0, 0, 1)", 3070);
    }

    /** price times E times 10, 9, 8, 6, 0, divided by 1000 (the rest away): what has a WORTH of 0 is like no. */
    private static void worthsWithTheRestAway() {
        String[] outs = {"refund 100", "note 100", "swap", "mend", "refund 50", "note 11", "note 1", "note 2", "refund 1",
            "refund 3"};
        int[] least = {1, 2, 2, 2, 2, 11, 112, 56, 100, 34};
        int[] said = {4100, 3100, 2100, 1100, 4050, 3011, 3001, 3002, 4001, 4003};
        for (int i = 0; i < outs.length; i++) {
            judgedBy("no", outs[i], least[i] - 1, 0, 0).due("judged(0, 0, 0)", 0).due("ofAsking(0, 9)", 0);
            judgedBy("no", outs[i], least[i], 0, 0).due("judged(0, 0, 0)", said[i]).due("ofAsking(0, 9)", 1);
        }
        judgedBy("note 100", "refund 90", 99999, 0, 0).due("judged(0, 0, 0)", 3100);
        judgedBy("note 99", "refund 100", 99999, 0, 0).due("judged(0, 0, 0)", 4100).due("ofAsking(0, 9)", 1);
        judgedBy("no", "refund 1", 99999, 0, 0).due("judged(0, 0, 0)", 4001);
    }

    /** It is OPEN, if their WORTHS differ, not their OUTS. */
    private static void openOnes() {
        judgedBy("days:note 100;refund 90", "no", 1000, 1, 0).due("ofAsking(0, 3)", 0);
        judgedBy("days:note 100;refund 91", "no", 1000, 1, 0).due("ofAsking(0, 3)", 1);
        judgedBy("days:note 100;refund 91", "no", 10, 1, 0).due("ofAsking(0, 3)", 0);
        judgedBy("days:note 100;refund 90", "no", 10, 1, 0).due("ofAsking(0, 3)", 0);
        judgedBy("days:note 100;refund 89", "no", 10, 1, 0).due("ofAsking(0, 3)", 1);
        judgedBy("days:refund 0;no", "no", 1000, 1, 0).due("ofAsking(0, 3)", 0).due("judged(0, 0, 0)", 0);
        judgedBy("refund days", "no", 1000, 7007, 0).due("ofAsking(0, 3)", 0);
        judgedBy("refund days", "no", 1000, 7008, 0).due("ofAsking(0, 3)", 1);
        judgedBy("refund days", "refund 8", 1000, 7008, 0).due("ofAsking(0, 3)", 0).due("ofAsking(0, 9)", 1);
    }

    /** Promise 19: an ASKING, a DAY k (0 .. 2999), which 0, 1. */
    private static void judged() {
        Scene s = Scene.rich(C);
        s.range("judged(#, 1, 0)", 0, 3, BAD).range("judged(2, #, 0)", 0, 2999, BAD).range("judged(2, 1, #)", 0, 1, BAD);
        s.due("judged(2, 0, 0)", 2100).due("judged(2, 2999, 0)", 2100).due("judged(2, 1, 1)", 0);
    }

    /** AS KNOWN on DAY k: a TEXT made on DAY k counts, one made behind it doesn't. */
    private static void asKnown() {
        Scene s = Scene.shop(C).calls("sell(0, 7, 0, 0, -1)").until(24).text(0, 0, "refund 10", 0).until(48);
        s.due("ask(0, 2, 0, 0, 7, 500)", 0).until(72).text(0, 0, "refund 20", 1);
        s.due("judged(0, 0, 0)", 0).due("judged(0, 1, 0)", 4010).due("judged(0, 2, 0)", 4010).due("judged(0, 3, 0)", 4020);
        s.due("judged(0, 2999, 0)", 4020).due("ofAsking(0, 3)", 0).text(1, 0, "refund 30", 2).due("judged(0, 2, 0)", 4010);
        s.due("judged(0, 3, 0)", 4030).due("ofAsking(0, 9)", 0).due("take(0)", 4010);
    }

    /** Promise 20: what 0 .. 9. VOID: BAD. */
    private static void ofAsking() {
        Scene s = Scene.rich(C);
        for (int what = 0; what <= 9; what++) {
            s.range("ofAsking(#, " + what + ")", 0, 3, VOID);
        }
        s.range("ofAsking(0, #)", 0, 9, VOID).range("ofAsking(3, #)", 0, 9, VOID);
        int[][] want = {{5, 2, 1, 0, 0, 0, 1, 500, -1, 0}, {0, 2, 1, 0, 0, 0, 1, 400, 0, 0}, {1, 0, 1, 1, 0, 1, 0, 0, -1, 0},
            {6, 2, 1, 0, 0, 0, 1, 0, -1, 0}};
        for (int asking = 0; asking < want.length; asking++) {
            for (int what = 0; what <= 9; what++) {
                s.due("ofAsking(" + asking + ", " + what + ")", want[asking][what]);
            }
        }
        s.due("leave(2)", 1).due("ofAsking(2, 6)", 2).due("ofAsking(2, 7)", 0).due("ofAsking(2, 8)", -1);
    }

    /** SWAPPED: a NUMBER told of what is brought, that is not the SALE's. */
    private static void swapped() {
        Scene s = Scene.shop(C).text(0, 0, "refund 1", 0);
        s.calls("sell(0, 1, 0, 0, -1)", "sell(0, 500, 0, 0, -1)", "sell(0, 999999, 0, 0, -1)");
        s.due("ask(0, 2, 0, 0, 2, 500)", 0).due("ask(1, 2, 0, 0, 499, 500)", 1).due("ask(2, 2, 0, 0, 999998, 500)", 2);
        for (int i = 0; i < 3; i++) {
            s.due("ofAsking(" + i + ", 4)", 1).refused("take(" + i + ")", NOT).due("leave(" + i + ")", 1);
        }
        s.due("ask(0, 2, 0, 0, 1, 500)", 3).due("ask(1, 2, 0, 0, 500, 500)", 4).due("ask(2, 2, 0, 0, 999999, 500)", 5);
        for (int i = 3; i < 6; i++) {
            s.due("ofAsking(" + i + ", 4)", 0).due("take(" + i + ")", 4001);
        }
    }

    /** LIGHT: more than a 50th of the WEIGHT (the rest away) from it, either way; it is taken all the same. */
    private static void light() {
        int[] weights = {1, 49, 50, 99, 100, 149, 500, 99999};
        int[] fiftieths = {0, 0, 1, 1, 2, 2, 10, 1999};
        for (int i = 0; i < weights.length; i++) {
            int[] grams = {weights[i] - fiftieths[i] - 1, weights[i] - fiftieths[i], weights[i], weights[i] + fiftieths[i],
                weights[i] + fiftieths[i] + 1, 0, 199999};
            int[] light = {1, 0, 0, 0, 1, 1, 1};
            for (int j = 0; j < grams.length; j++) {
                Scene s = new Scene(C).calls("model(0, " + weights[i] + ", 0)", "lot(0, 0, 1)", "sell(0, 7, 0, 0, -1)");
                s.text(0, 0, "refund 1", 0).due("ask(0, 2, 0, 0, 7, " + grams[j] + ")", 0);
                s.due("ofAsking(0, 5)", light[j]).due("take(0)", 4001).due("worth(0, 1)", light[j] == 1 ? VOID : 0);
            }
        }
    }

    /** Promise 21: an ASKING. BAD; NOT: it does not wait. */
    private static void take() {
        Scene s = Scene.rich(C);
        s.range("take(#)", 0, 3, BAD);
        s.refused("take(0)", NOT).refused("take(1)", NOT).refused("take(3)", NOT);
        s.due("take(2)", 2100).refused("take(2)", NOT).due("ofSale(1, 0)", 2).due("ofSale(1, 11)", 1);
        Scene t = Scene.rich(C).due("leave(2)", 1).refused("take(2)", NOT).due("ofSale(1, 0)", 0);
        t.due("ask(1, 2, 0, 0, 12, 500)", 4).refused("take(2)", NOT).due("take(4)", 4050);
    }

    /** THE BEST AS KNOWN on the ASKING's DAY is done, whenever it is taken. */
    private static void takenOnItsDay() {
        Scene s = Scene.shop(C).times(2, "sell(0, 7, 0, 0, -1)").text(0, 0, "refund 10", 0).until(23);
        s.due("ask(0, 2, 0, 0, 7, 500)", 0).due("ask(1, 2, 0, 0, 7, 500)", 1).text(0, 0, "refund 20", 1);
        s.due("take(0)", 4020).until(24).text(0, 0, "refund 30", 2).due("judged(1, 1, 0)", 4030).due("take(1)", 4020);
        s.due("ofSale(0, 11)", 0).due("ofSale(1, 11)", 1).due("ofAsking(1, 2)", 0).due("count(10)", 400);
    }

    /** NOT: THE BEST is no. A refund or a note of 0 hundredths is not no. */
    private static void takeNo() {
        Scene s = Scene.shop(C).text(0, 0, "worn=1:no;worn=2:refund 0;worn=3:note 0;worn=4:swap;worn=5:mend;0:swap", 0);
        s.times(6, "sell(0, 7, 0, 0, -1)");
        for (int worn = 1; worn <= 6; worn++) {
            s.due("ask(" + (worn - 1) + ", 2, 0, " + 1100 * worn + ", 7, 500)", worn - 1);
        }
        s.refused("take(0)", NOT).refused("take(5)", NOT).due("take(1)", 4000).due("take(2)", 3000).due("take(3)", 2100);
        s.due("take(4)", 1100).due("ofAsking(1, 7)", 0).due("ofAsking(1, 8)", -1).due("ofAsking(2, 8)", 0).due("note(0)", 0);
        s.due("ofSale(0, 0)", 1).due("ofSale(5, 0)", 1).due("leave(0)", 1);
    }

    /** NOT: THE TILL has too few coins, for a refund; just enough will do. */
    private static void tillJustEnough() {
        Scene s = new Scene(C).calls("model(0, 100, 1)", "price(0, 0, 1000)", "lot(0, 0, 9)", "sell(0, 7, 0, 100, -1)");
        s.text(0, 0, "worn:mend;refund 100", 0).takeBack(0, 1100, 100, 1100).due("count(5)", 999);
        s.due("ask(0, 2, 0, 0, 7, 100)", 1).refused("take(1)", NOT).due("ofAsking(1, 6)", 0).due("ofAsking(1, 7)", 0);
        s.due("till(1)", 1000).due("take(1)", 4100).due("count(5)", 0).due("count(10)", 1000).due("ofAsking(1, 7)", 1000);
        // 33 hundredths of 101 are 33 coins, the rest away.
        Scene t = new Scene(C).calls("model(0, 100, 69)", "price(0, 0, 101)", "lot(0, 0, 9)", "sell(0, 7, 0, 0, -1)");
        t.text(0, 0, "worn:mend;refund 33", 0).takeBack(0, 1100, 100, 1100).due("count(5)", 32);
        t.due("ask(0, 1, 0, 0, 7, 100)", 1).refused("take(1)", NOT).due("till(1)", 33).due("take(1)", 4033).due("count(5)", 0);
    }

    /** NOT: THE TILL has too few coins, to mend; a MEND price of 0 needs none. */
    private static void mendJustEnough() {
        Scene s = new Scene(C).calls("model(0, 100, 30)", "lot(0, 0, 9)", "sell(0, 7, 0, 0, -1)").text(0, 0, "mend", 0);
        s.due("ask(0, 0, 0, 110000, 7, 100)", 0).refused("take(0)", NOT).due("till(29)", 29).refused("take(0)", NOT);
        s.due("ofLot(0, 1, 0)", 0).due("till(1)", 30).due("take(0)", 1100).due("count(5)", 0).due("count(11)", 30);
        s.due("ofLot(0, 1, 0)", 1).due("ofSale(0, 0)", 0).due("stock(0, 6)", 1).due("count(10)", 0);
        Scene t = new Scene(C).calls("model(0, 100, 0)", "lot(0, 0, 9)", "sell(0, 7, 0, 0, -1)").text(0, 0, "mend", 0);
        t.due("ask(0, 2, 0, 0, 7, 100)", 0).due("take(0)", 1100).due("stock(0, 6)", 1);
    }

    /** With PROOF 0, or for a GIFT, a NOTE of so many instead: of an empty TILL too. */
    private static void noteInstead() {
        Scene s = new Scene(C).calls("model(0, 100, 1000)", "price(0, 0, 1000)", "lot(0, 0, 9)").text(0, 0, "fault:mend;refund 95", 0);
        for (int sale = 0; sale < 4; sale++) {
            s.calls("sell(0, 7, 0, 100, -1)").takeBack(sale, 110000, 100, 1100).due("count(5)", 0);
        }
        s.calls("gift(1, 1)", "gift(3, 1)").due("ask(0, 0, 0, 0, 7, 100)", 4).due("ask(1, 2, 0, 0, 7, 100)", 5);
        s.due("ask(2, 1, 0, 0, 7, 100)", 6).due("ask(3, 0, 0, 0, 7, 100)", 7);
        s.due("take(4)", 4095).due("note(0)", 950).due("ofAsking(4, 7)", 950).due("ofAsking(4, 8)", 0);
        s.due("take(5)", 4095).due("note(1)", 950).due("ofAsking(5, 8)", 1).refused("take(6)", NOT).due("take(7)", 4095);
        s.due("count(4)", 3).due("count(5)", 0).due("count(6)", 2850).due("count(10)", 0).due("gift(2, 1)", 0);
        s.due("take(6)", 4095).due("ofAsking(6, 8)", 3);
    }

    /** price E / 100 (the rest away): 0 coins are paid out of an empty TILL, and a NOTE may have 0. */
    private static void refundOfNothing() {
        int[] prices = {0, 1, 99, 100, 101, 199, 200, 99999};
        for (int price : prices) {
            Scene s = new Scene(C).calls("model(0, 100, 0)", "price(0, 0, " + price + ")", "lot(0, 0, 9)");
            s.text(0, 0, "worn:note 1;refund 1", 0).times(2, "sell(0, 7, 0, 0, -1)").takeBack(0, 0, 100, 4001);
            s.due("ofAsking(0, 7)", price / 100).due("count(10)", price / 100).due("count(5)", 2 * price - price / 100);
            s.takeBack(1, 1100, 100, 3001).due("note(0)", price / 100).due("ofAsking(1, 7)", price / 100);
            s.due("count(6)", price / 100).due("count(4)", 1);
        }
    }

    /** Swap: the least LOT that has some, up to its last; else one sorted as new; if there is none, a NOTE of the price. */
    private static void swapsUpToTheLast() {
        Scene s = new Scene(C).calls("model(0, 100, 0)", "model(0, 100, 0)", "price(0, 0, 300)", "lot(1, 0, 3)");
        s.calls("lot(0, 0, 5)", "lot(0, 0, 1)", "lot(0, 0, 1)").times(5, "sell(1, 7, 0, 0, -1)").text(0, 0, "swap", 0);
        s.takeBack(0, 0, 100, 2100).refused("sell(2, 7, 0, 0, -1)", NOT).mayBe("sell(3, 7, 0, 0, -1)", NOT);
        s.takeBack(1, 1100, 100, 2100).refused("sell(3, 7, 0, 0, -1)", NOT).due("stock(0, 0)", 0).due("count(4)", 0);
        s.due("sort(0)", 0).due("sort(1)", 1).due("stock(0, 0)", 1).due("stock(0, 1)", 1).due("price(0, 0, 5)", 2);
        s.takeBack(2, 0, 100, 2100).due("stock(0, 0)", 0).due("count(4)", 0).due("ofAsking(2, 7)", 0);
        // A used one, and one that lies in THE HEAP, are no new pieces.
        s.takeBack(3, 0, 100, 2100).due("note(0)", 300).due("ofAsking(3, 7)", 300).due("stock(0, 1)", 1).due("stock(0, 2)", 2);
        s.calls("lot(0, 0, 1)").takeBack(4, 0, 100, 2100).due("count(4)", 1).due("stock(0, 0)", 0).due("stock(1, 0)", 3);
        s.due("ofSale(3, 0)", 2).due("ofSale(4, 0)", 2).due("count(2)", 5);
    }

    /** Promise 22: an ASKING that waits. BAD, NOT. */
    private static void leave() {
        Scene s = Scene.rich(C);
        s.range("leave(#)", 0, 3, BAD);
        s.refused("leave(0)", NOT).refused("leave(1)", NOT).refused("leave(3)", NOT);
        s.due("leave(2)", 1).refused("leave(2)", NOT).due("ofSale(1, 0)", 0).due("ask(1, 2, 0, 0, 12, 500)", 4);
        s.refused("leave(2)", NOT).due("ofSale(1, 0)", 1).due("leave(4)", 1);
    }

    /** Promise 23: a NOTE. BAD. */
    private static void note() {
        Scene s = Scene.rich(C).range("note(#)", 0, 0, BAD).due("take(2)", 2100).range("note(#)", 0, 0, BAD);
        s.due("sell(1, 1, 0, 0, 0)", 7).due("note(0)", 200);
        Scene.shop(C).refused("note(0)", BAD).refused("note(-1)", BAD);
    }

    /** NOTES 0 .. 199: 512 calls can make some 167, each by a SALE, an ASKING and a taking; FULL is out of their reach. */
    private static void mostNotes() {
        Scene s = new Scene(C).calls("model(0, 100, 0)", "price(0, 0, 3)", "lot(0, 0, 99)", "lot(0, 0, 99)");
        s.text(0, 0, "note 100", 0);
        for (int i = 0; i < 166; i++) {
            s.due("sell(" + i / 99 + ", 7, 0, 0, -1)", i).due("ask(" + i + ", 2, 0, 0, 7, 100)", i).due("take(" + i + ")", 3100);
        }
        s.due("count(4)", 166).due("count(6)", 498).due("note(165)", 3).refused("note(166)", BAD);
    }
}
