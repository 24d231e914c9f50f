/** The edges of promises 31 to 34: on both sides of each, and that a refused call leaves all as it was. */
public final class LimitEdgesTest {
    private static final Checks C = new Checks("edges of limits");
    private static final int BAD = -1, NOT = -2;

    public static void main(String[] args) {
        honest();
        limit();
        limitFaults();
        oneThatWasStays();
        tried();
        triedOnBuyersWithASale();
        triedByWhatIsTold();
        hits();
        noLimit();
        names();
        shares();
        spent();
        lately();
        wraps();
        C.finish();
    }

    /** Promise 31: a BUYER (0 .. 59), HONEST (1), not (0), or not told (2; at first). */
    private static void honest() {
        Scene s = Scene.rich(C);
        s.range("honest(#, 1)", 0, 59, BAD).range("honest(0, #)", 0, 2, BAD).range("honest(59, #)", 0, 2, BAD);
        for (int buyer = 0; buyer <= 59; buyer++) {
            s.due("honest(" + buyer + ", 0)", buyer == 5 ? 1 : 2).due("honest(" + buyer + ", 2)", 0);
        }
        s.due("honest(59, 1)", 2).due("honest(59, 1)", 1).due("honest(59, 2)", 1).due("honest(59, 0)", 2).due("honest(58, 2)", 2);
    }

    /** Promise 32: THE TAPE is one Q; it is empty then. */
    private static void limit() {
        String[] good = {"1", "back", "bought and back", "not lately", "share>50 or spent<3", "(back)", " bought ", "back=1+1",
            "not not not not not not not not not not back", "((((((((((back))))))))))", "12345", "1+".repeat(98) + "back",
            "back or " + " ".repeat(187) + "share"};
        for (String words : good) {
            Scene s = Scene.rich(C).limit(words, 1).due("count(9)", 0).due("count(8)", 2);
            s.due("limit()", -100);
        }
        C.due("the longest", ("1+".repeat(98) + "back").length(), 200);
        C.due("the longest with blanks", ("back or " + " ".repeat(187) + "share").length(), 200);
    }

    /** -100 less its FAULT: as of a TEXT, but it is one Q, of other NAMES. */
    private static void limitFaults() {
        String[] faulty = {"", " ", "back back", "back:no", "back;back", "no", "refund 1", "days", "fault", "worn", "opened",
            "proof", "gift", "kind", "price", "size", "month", "threes", "times", "123456", "back<", "back+", "(back", "back)",
            "not", "not not not not not not not not not not not back", "(((((((((((back)))))))))))", "back<1<2", "Back",
            "back,", "1+".repeat(100), "1 2", "backlately", "bac", "backs"};
        int[] places = {0, 1, 5, 4, 4, 0, 0, 0, 0, 0, 0, 0, 0, 0, 0, 0, 0, 0, 0, 0, 5, 5, 5, 4, 3, 40, 10, 6, 0, 4, 200, 2, 0, 0, 0};
        for (int i = 0; i < faulty.length; i++) {
            new Scene(C).limit(faulty[i], -100 - places[i]).due("count(9)", 0).due("hits(0)", NOT);
        }
        // The LIMIT's NAMES are none of a TEXT's.
        for (String name : new String[] {"bought", "back", "share", "spent", "lately"}) {
            new Scene(C).text(0, 0, name + ":no", -100).text(0, 0, "refund " + name, -107).limit(name, 1);
        }
    }

    /** With a FAULT the one that was stays; without, the new one counts alone. */
    private static void oneThatWasStays() {
        Scene s = Scene.rich(C).due("hits(5)", 1).due("hits(6)", 0).limit("not back back", -109).due("hits(5)", 1).due("hits(6)", 0);
        s.due("limit()", -100).due("hits(5)", 1).due("tried(3)", 2).limit("not back", 1).due("hits(5)", 0).due("hits(6)", 1);
        s.limit("no", -100).due("hits(5)", 0).due("hits(6)", 1).due("tried(3)", 2);
        Scene.rich(C).likeBehind("limit()", -100, "end(0)");
        Scene.rich(C).tape("").likeBehind("limit()", -100, "end(0)");
        Scene.rich(C).tape("back<1<2").likeBehind("limit()", -106, "end(0)");
    }

    /** Promise 33: which 0 .. 3. */
    private static void tried() {
        Scene s = Scene.rich(C).range("tried(#)", 0, 3, BAD);
        s.due("tried(0)", 1).due("tried(1)", 0).due("tried(2)", 1).due("tried(3)", 2);
    }

    /** On all BUYERS (0 .. 59) with a SALE; 60 is no BUYER that is known. */
    private static void triedOnBuyersWithASale() {
        Scene s = Scene.shop(C).limit("1", 1).due("tried(3)", 0).calls("sell(0, 7, 0, 60, -1)").due("tried(3)", 0);
        s.calls("sell(0, 7, 0, 59, -1)").due("tried(3)", 1).calls("sell(0, 7, 0, 0, -1)").due("tried(3)", 2);
        s.calls("sell(0, 7, 0, 0, -1)").due("tried(3)", 2).calls("honest(30, 1)").due("tried(0)", 0).due("tried(2)", 2);
        Scene all = Scene.shop(C).calls("lot(0, 0, 11)").limit("bought=1", 1);
        for (int buyer = 0; buyer <= 60; buyer++) {
            all.calls("sell(" + buyer / 50 + ", 7, 0, " + buyer + ", -1)").due("tried(3)", Math.min(60, buyer + 1));
        }
    }

    /** How many it HITS that are told HONEST (0), told not (1), and not told (2). */
    private static void triedByWhatIsTold() {
        Scene s = Scene.shop(C).limit("bought>1", 1);
        for (int buyer = 54; buyer <= 59; buyer++) {
            s.times(buyer == 54 ? 1 : 2, "sell(0, 7, 0, " + buyer + ", -1)");
        }
        s.calls("honest(54, 1)", "honest(55, 1)", "honest(56, 0)", "honest(57, 0)", "honest(0, 1)", "honest(1, 0)");
        s.due("tried(0)", 1).due("tried(1)", 2).due("tried(2)", 2).due("tried(3)", 5);
        s.calls("honest(55, 2)").due("tried(0)", 0).due("tried(2)", 3).calls("sell(0, 7, 0, 54, -1)").due("tried(0)", 1);
        s.due("tried(3)", 6).limit("bought>2", 1).due("tried(3)", 0).due("tried(0)", 0);
    }

    /** Promise 34: a BUYER (0 .. 59), also one without a SALE. */
    private static void hits() {
        Scene s = Scene.rich(C).range("hits(#)", 0, 59, BAD);
        s.due("hits(5)", 1).due("hits(0)", 0).due("hits(59)", 0).limit("bought=0 and back=0 and share=0 and spent=0 and lately=0", 1);
        s.due("hits(0)", 1).due("hits(59)", 1).due("hits(5)", 0).due("tried(3)", 0);
        s.limit("0-1", 1).due("hits(0)", 1).limit("2", 1).due("hits(0)", 1).limit("0", 1).due("hits(0)", 0);
    }

    /** NOT: no LIMIT; BAD is named ahead of it. */
    private static void noLimit() {
        Scene s = Scene.shop(C).calls("sell(0, 7, 0, 0, -1)");
        for (int which = 0; which <= 3; which++) {
            s.refused("tried(" + which + ")", NOT);
        }
        s.refused("tried(-1)", BAD).refused("tried(4)", BAD).refused("hits(0)", NOT).refused("hits(59)", NOT);
        s.refused("hits(60)", BAD).refused("hits(-1)", BAD).limit("refund 1", -100).refused("tried(0)", NOT).refused("hits(0)", NOT);
        s.text(0, 0, "no", 0).refused("hits(0)", NOT).limit("1", 1).due("hits(0)", 1).due("tried(3)", 1);
    }

    /** bought (SALES of a BUYER), back (those BACK): what is ASKED, KEPT, MENDED or LEFT isn't BACK. */
    private static void names() {
        Scene s = Scene.shop(C).text(0, 0, "fault:mend;refund 1", 0).times(5, "sell(0, 7, 0, 59, -1)");
        s.times(2, "sell(0, 7, 0, 58, -1)").calls("keep(0)", "ask(1, 2, 0, 0, 7, 500)", "ask(2, 2, 0, 0, 7, 500)", "leave(1)");
        s.takeBack(3, 110000, 500, 1100).limit("bought=5 and back=0 and lately=0 and share=0", 1).due("hits(59)", 1);
        s.takeBack(4, 0, 500, 4001).due("hits(59)", 0).limit("bought=5 and back=1 and lately=1 and share=20", 1).due("hits(59)", 1);
        s.due("hits(58)", 0).due("sort(4)", 0).due("hits(59)", 1).limit("bought=2 and back=0", 1).due("hits(58)", 1);
        s.due("hits(59)", 0);
    }

    /** share (100 back / bought; 0 without): the rest away. */
    private static void shares() {
        int[][] rows = {{1, 0, 0}, {1, 1, 100}, {3, 1, 33}, {3, 2, 66}, {3, 3, 100}, {6, 1, 16}, {7, 6, 85}, {50, 1, 2}, {49, 1, 2}};
        for (int[] row : rows) {
            Scene s = Scene.shop(C).text(0, 0, "refund 1", 0).times(row[0], "sell(0, 7, 0, 9, -1)");
            for (int i = 0; i < row[1]; i++) {
                s.takeBack(i, 0, 500, 4001);
            }
            s.limit("share=" + row[2], 1).due("hits(9)", 1).limit("share<" + row[2], 1).due("hits(9)", 0);
            s.limit("share>" + row[2], 1).due("hits(9)", 0);
        }
    }

    /** spent (prices of all): of what is BACK too, and of what a NOTE paid. */
    private static void spent() {
        Scene s = Scene.shop(C).calls("price(0, 0, 99999)").text(0, 0, "note 100", 0).times(2, "sell(0, 7, 0, 9, -1)");
        s.takeBack(0, 0, 500, 3100).calls("sell(0, 7, 0, 9, 0)", "sell(0, 7, 0, 60, -1)", "sell(0, 7, 0, 8, -1)");
        s.limit("spent=3*99999", 1).due("hits(9)", 1).due("hits(8)", 0).limit("spent=99999", 1).due("hits(8)", 1);
        s.limit("spent=0", 1).due("hits(7)", 1).due("hits(9)", 0).calls("price(0, 0, 1)").limit("spent=3*99999", 1).due("hits(9)", 1);
    }

    /** lately (BACK in the last 30 DAYS): TODAY and the 29 ahead of it. */
    private static void lately() {
        Scene s = Scene.shop(C).text(0, 0, "refund 1", 0).times(2, "sell(0, 7, 0, 9, -1)").limit("lately", 1).due("hits(9)", 0);
        s.until(23).takeBack(0, 0, 500, 4001).due("hits(9)", 1).until(29 * 24 + 23).due("hits(9)", 1).until(30 * 24).due("hits(9)", 0);
        s.until(100 * 24).takeBack(1, 0, 500, 4001).due("hits(9)", 1).limit("lately=1 and back=2", 1).due("hits(9)", 1);
        s.until(129 * 24 + 23).due("hits(9)", 1).due("tried(3)", 1).until(130 * 24).due("hits(9)", 0).due("tried(3)", 0);
        s.until(71999).limit("lately=0 and back=2", 1).due("hits(9)", 1);
    }

    /** The LIMIT's Q is worked out as a TEXT's is: ints that wrap, / by 0 gives 0. */
    private static void wraps() {
        Scene s = Scene.rich(C).limit("32768*65536<0", 1).due("hits(0)", 1).limit("65536*65536", 1).due("hits(0)", 0);
        s.limit("7/bought=0", 1).due("hits(0)", 1).limit("(0-7)/2=0-3", 1).due("hits(0)", 1);
        s.limit("32768*65536/(0-1)=32768*65536", 1).due("hits(0)", 1);
    }
}
