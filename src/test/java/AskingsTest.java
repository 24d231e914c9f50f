/** Promises 18 to 23: ask, judged, ofAsking, take, leave, note. */
public final class AskingsTest {
    private static final Checks C = new Checks("askings");
    private static final int VOID = ReturnDesk.VOID;

    public static void main(String[] args) {
        ask();
        askFull();
        noText();
        spans();
        daysThatWere();
        sides();
        likeOnes();
        asKnown();
        ofAsking();
        light();
        refund();
        noteAndGift();
        swap();
        mend();
        takeRefused();
        leave();
        beyondAllCalls();
        C.finish();
    }

    private static ReturnDesk sold(int coins, String law) {
        ReturnDesk d = Checks.shop(coins);
        d.sell(0, 7, 0, 0, -1);
        if (law != null) {
            C.due("law", Checks.text(d, 0, 0, law), 0);
        }
        return d;
    }

    private static void ask() {
        ReturnDesk d = sold(0, null);
        C.due("sale 1", d.ask(1, 0, 0, 0, 7, 500), -1);
        C.due("sale -1", d.ask(-1, 0, 0, 0, 7, 500), -1);
        C.due("proof -1", d.ask(0, -1, 0, 0, 7, 500), -1);
        C.due("proof 3", d.ask(0, 3, 0, 0, 7, 500), -1);
        C.due("days -1", d.ask(0, 0, -1, 0, 7, 500), -1);
        C.due("days 1000000", d.ask(0, 0, 1000000, 0, 7, 500), -1);
        C.due("days from above to", d.ask(0, 0, 2001, 0, 7, 500), -1);
        C.due("days of 61", d.ask(0, 0, 61, 0, 7, 500), -1);
        C.due("days 900 to 961", d.ask(0, 0, 900961, 0, 7, 500), -1);
        C.due("facts -1", d.ask(0, 0, 0, -1, 7, 500), -1);
        C.due("facts 1000000", d.ask(0, 0, 0, 1000000, 7, 500), -1);
        C.due("fault 0 .. 2", d.ask(0, 0, 0, 20000, 7, 500), -1);
        C.due("fault 1 .. 0", d.ask(0, 0, 0, 100000, 7, 500), -1);
        C.due("worn 3 .. 2", d.ask(0, 0, 0, 3200, 7, 500), -1);
        C.due("opened 1 .. 0", d.ask(0, 0, 0, 10, 7, 500), -1);
        C.due("opened 0 .. 2", d.ask(0, 0, 0, 2, 7, 500), -1);
        C.due("brought 0", d.ask(0, 0, 0, 0, 0, 500), -1);
        C.due("brought 1000000", d.ask(0, 0, 0, 0, 1000000, 500), -1);
        C.due("grams -1", d.ask(0, 0, 0, 0, 7, -1), -1);
        C.due("grams 200000", d.ask(0, 0, 0, 0, 7, 200000), -1);
        C.due("still OUT", d.ofSale(0, 0), 0);
        C.due("no asking", d.count(3), 0);
        C.due("all of the greatest", d.ask(0, 0, 939999, 110911, 999999, 199999), 0);
        C.due("ASKED", d.ofSale(0, 0), 1);
        C.due("not OUT", d.ask(0, 0, 0, 0, 7, 500), -2);
        C.due("BAD ahead of NOT", d.ask(0, 0, 0, 0, 0, 500), -1);
        d.leave(0);
        C.due("again, all of the least", d.ask(0, 0, 60, 0, 1, 0), 1);
        C.due("count", d.count(3), 2);
    }

    private static void askFull() {
        ReturnDesk d = sold(0, null);
        d.sell(0, 8, 0, 0, -1);
        for (int i = 0; i < 200; i++) {
            C.due("ask", d.ask(0, 0, 0, 0, 7, 500), i);
            if (i < 199) {
                d.leave(i);
            }
        }
        C.due("NOT ahead of FULL", d.ask(0, 0, 0, 0, 7, 500), -2);
        C.due("the 201st", d.ask(1, 0, 0, 0, 8, 500), -3);
        C.due("that sale is OUT", d.ofSale(1, 0), 0);
        C.due("asking 200 of 200", d.take(200), -1);
    }

    private static void noText() {
        ReturnDesk d = sold(0, null);
        d.ask(0, 0, 60, 10901, 7, 500);
        C.due("best without any text", d.judged(0, 0, 0), 0);
        C.due("worst without any text", d.judged(0, 0, 1), 0);
        C.due("not open", d.ofAsking(0, 3), 0);
        C.due("the law's", d.ofAsking(0, 9), 0);
        C.due("not taken", d.take(0), -2);
        Checks.text(d, 1, 0, "days=60 and worn=9:note 3");
        C.due("the word alone", d.judged(0, 0, 0), 3003);
        C.due("its side", d.ofAsking(0, 9), 1);
    }

    private static void spans() {
        ReturnDesk d = sold(0, "refund days");
        d.ask(0, 0, 10040, 0, 7, 500);
        C.due("best of days", d.judged(0, 0, 0), 4040);
        C.due("worst of days", d.judged(0, 0, 1), 4010);
        C.due("open", d.ofAsking(0, 3), 1);
        d.leave(0);
        Checks.text(d, 0, 0, "refund 50+worn*10*(1-fault)-5*opened");
        d.ask(0, 0, 0, 10301, 7, 500);
        C.due("best of the rest", d.judged(1, 0, 0), 4080);
        C.due("worst of the rest", d.judged(1, 0, 1), 4045);
        d.leave(1);
        d.ask(0, 0, 0, 112200, 7, 500);
        C.due("narrow spans", d.judged(2, 0, 0), 4050);
        C.due("narrow spans, worst", d.judged(2, 0, 1), 4050);
        C.due("not open", d.ofAsking(2, 3), 0);
        d.leave(2);
        Checks.text(d, 0, 0, "days>5 and days<7 and fault and worn=4 and opened:note 80;note 70");
        d.ask(0, 0, 60, 10901, 7, 500);
        C.due("one of all facts", d.judged(3, 0, 0), 3080);
        C.due("the others", d.judged(3, 0, 1), 3070);
    }

    private static void daysThatWere() {
        ReturnDesk d = sold(0, "refund days");
        d.hours(23);
        d.sell(0, 7, 0, 0, -1);
        d.hours(1 + 24 * 3);
        d.ask(0, 1, 50060, 0, 7, 500);
        C.due("joined: days that were", d.judged(0, 4, 0), 4004);
        C.due("joined: no span", d.judged(0, 4, 1), 4004);
        d.ask(1, 2, 99, 0, 7, 500);
        C.due("a span of more than 60 is not one", d.count(3), 1);
        d.ask(1, 2, 40099, 0, 7, 500);
        C.due("receipt: days that were", d.judged(1, 4, 0), 4004);
        d.hours(24 * 9);
        C.due("as of the asking's day", d.judged(1, 4, 0), 4004);
        d.leave(1);
        d.ask(1, 0, 40099, 0, 7, 500);
        C.due("none: days as told", d.judged(2, 13, 0), 4099);
        d.leave(2);
        d.ask(1, 0, 999999, 0, 7, 500);
        C.due("the last days", d.judged(3, 13, 1), 4100);
        d.leave(3);
        d.sell(0, 7, 0, 0, -1);
        Checks.days(d, 2);
        d.ask(2, 2, 0, 0, 7, 500);
        C.due("sold on day 13, asked on day 15", d.judged(4, 15, 0), 4002);
        Checks.text(d, 0, 0, "refund days-1200");
        Checks.days(d, 1215);
        d.ask(1, 2, 0, 0, 7, 500);
        C.due("more than 999 days", d.judged(5, 2999, 0), 4030);
    }

    private static void sides() {
        ReturnDesk d = sold(0, "days<10:refund 60;mend");
        Checks.text(d, 1, 0, "days<5:refund 70;note 50");
        d.ask(0, 0, 12, 0, 7, 500);
        C.due("best is the word's", d.judged(0, 0, 0), 4070);
        C.due("its side", d.ofAsking(0, 9), 1);
        C.due("worst is the law's of days 5, 600 as a mend of day 10", d.judged(0, 0, 1), 4060);
        d.leave(0);
        d.ask(0, 0, 6012, 0, 7, 500);
        C.due("best of days 6 .. 12: all like, the first", d.judged(1, 0, 0), 4060);
        C.due("worst", d.judged(1, 0, 1), 4060);
        C.due("not open", d.ofAsking(1, 3), 0);
        C.due("the law's", d.ofAsking(1, 9), 0);
        d.leave(1);
        Checks.text(d, 1, 0, "note 67");
        d.ask(0, 0, 10010, 0, 7, 500);
        C.due("note 67 is 603, mend 600", d.judged(2, 0, 0), 3067);
        Checks.text(d, 1, 0, "note 66");
        C.due("note 66 is 594", d.judged(2, 0, 0), 1100);
    }

    /** Worths by price 1000: refund 900 for 90, note 900 for 100, swap 800, note 801 for 89, refund 800 for 80. */
    private static void likeOnes() {
        ReturnDesk d = sold(0, "refund 90");
        Checks.text(d, 1, 0, "note 100");
        d.ask(0, 0, 60, 0, 7, 500);
        C.due("of like ones the law's", d.judged(0, 0, 0), 4090);
        C.due("worst too", d.judged(0, 0, 1), 4090);
        Checks.text(d, 0, 0, "days<30:note 100;refund 90");
        C.due("the first of like ones", d.judged(0, 0, 0), 3100);
        C.due("the first of the least", d.judged(0, 0, 1), 3100);
        C.due("no open one", d.ofAsking(0, 3), 0);
        Checks.text(d, 0, 0, "swap");
        Checks.text(d, 1, 0, "refund 80");
        C.due("swap of the law", d.judged(0, 0, 0), 2100);
        Checks.text(d, 1, 0, "note 89");
        C.due("note of the word", d.judged(0, 0, 0), 3089);
        Checks.text(d, 0, 0, "worn=1:refund 90;days=1:note 100;fault:swap;opened:mend;0:no");
        Checks.text(d, 1, 0, "no");
        d.leave(0);
        d.ask(0, 0, 2, 10101, 7, 500);
        C.due("days first, then fault, worn, opened", d.judged(1, 0, 0), 4090);
        C.due("worst", d.judged(1, 0, 1), 0);
        Checks.text(d, 0, 0, "opened:note 100;worn:refund 90;no");
        C.due("opened goes fastest", d.judged(1, 0, 0), 3100);
        Checks.text(d, 0, 0, "worn:note 100;fault:refund 90;no");
        C.due("worn ahead of fault", d.judged(1, 0, 0), 3100);
        Checks.text(d, 0, 0, "fault:note 100;days:refund 90;no");
        C.due("fault ahead of days", d.judged(1, 0, 0), 3100);
        Checks.text(d, 0, 0, "refund 0");
        C.due("a worth of 0 is like no", d.judged(1, 0, 0), 4000);
        d = Checks.shop(0);
        d.price(0, 0, 1);
        d.sell(0, 7, 0, 0, -1);
        Checks.text(d, 0, 0, "no");
        Checks.text(d, 1, 0, "note 100");
        d.ask(0, 0, 0, 0, 7, 500);
        C.due("9 tenths of 1: the rest away", d.judged(0, 0, 0), 0);
        C.due("the law's no", d.ofAsking(0, 9), 0);
    }

    private static void asKnown() {
        ReturnDesk d = sold(0, "refund 10");
        Checks.days(d, 2);
        d.ask(0, 2, 0, 0, 7, 500);
        Checks.text(d, 0, 0, "refund 20");
        Checks.days(d, 1);
        Checks.text(d, 0, 0, "refund 30");
        C.due("day 1", d.judged(0, 1, 0), 4010);
        C.due("day 2, made after the asking", d.judged(0, 2, 0), 4020);
        C.due("day 3", d.judged(0, 3, 0), 4030);
        C.due("day 2999", d.judged(0, 2999, 1), 4030);
        C.due("k -1", d.judged(0, -1, 0), -1);
        C.due("k 3000", d.judged(0, 3000, 0), -1);
        C.due("which 2", d.judged(0, 0, 2), -1);
        C.due("which -1", d.judged(0, 0, -1), -1);
        C.due("asking 1", d.judged(1, 0, 0), -1);
        C.due("asking -1", d.judged(-1, 0, 0), -1);
        C.due("taken as known on its day", d.take(0), 4020);
        C.due("judged later too", d.judged(0, 3, 0), 4030);
    }

    private static void ofAsking() {
        ReturnDesk d = sold(0, "days<5:refund 50;refund 30");
        d.sell(0, 8, 0, 0, -1);
        Checks.days(d, 3);
        d.ask(1, 1, 0, 0, 9, 500);
        d.ask(0, 0, 9, 0, 7, 489);
        int[] first = {1, 1, 3, 0, 1, 0, 0, 0, -1, 0};
        int[] second = {0, 0, 3, 1, 0, 1, 0, 0, -1, 0};
        for (int what = 0; what <= 9; what++) {
            C.due("ofAsking(0, " + what + ")", d.ofAsking(0, what), first[what]);
            C.due("ofAsking(1, " + what + ")", d.ofAsking(1, what), second[what]);
        }
        Checks.days(d, 1);
        Checks.text(d, 0, 0, "no");
        C.due("open as known that day", d.ofAsking(1, 3), 1);
        C.due("side as known that day", d.ofAsking(1, 9), 0);
        C.due("what 10", d.ofAsking(0, 10), VOID);
        C.due("what -1", d.ofAsking(0, -1), VOID);
        C.due("asking 2", d.ofAsking(2, 0), VOID);
        C.due("asking -1", d.ofAsking(-1, 0), VOID);
        d.leave(0);
        C.due("left", d.ofAsking(0, 6), 2);
        d.take(1);
        C.due("taken", d.ofAsking(1, 6), 1);
        C.due("paid as a note", d.ofAsking(1, 7), 500);
        C.due("the note", d.ofAsking(1, 8), 0);
    }

    private static void light() {
        ReturnDesk d = sold(0, null);
        int[] grams = {500, 510, 511, 490, 489, 0, 199999};
        int[] light = {0, 0, 1, 0, 1, 1, 1};
        for (int i = 0; i < grams.length; i++) {
            d.ask(0, 0, 0, 0, 7, grams[i]);
            C.due("light of " + grams[i], d.ofAsking(i, 5), light[i]);
            d.leave(i);
        }
        d.model(0, 49, 0);
        d.lot(1, 0, 1);
        d.sell(1, 1, 0, 0, -1);
        d.ask(1, 0, 0, 0, 1, 49);
        C.due("a 50th of 49 is 0", d.ofAsking(7, 5), 0);
        d.leave(7);
        d.ask(1, 0, 0, 0, 1, 50);
        C.due("one more", d.ofAsking(8, 5), 1);
    }

    private static void refund() {
        ReturnDesk d = new ReturnDesk();
        d.model(0, 100, 0);
        d.price(0, 0, 999);
        d.lot(0, 0, 9);
        Checks.text(d, 0, 0, "refund 50");
        d.sell(0, 7, 0, 100, -1);
        d.sell(0, 8, 0, 0, -1);
        d.ask(0, 2, 0, 0, 7, 100);
        C.due("take", d.take(0), 4050);
        C.due("the rest away", d.ofAsking(0, 7), 499);
        C.due("no note", d.ofAsking(0, 8), -1);
        C.due("out of the till", d.count(5), 1499);
        C.due("to the card", d.count(10), 499);
        C.due("back", d.ofSale(0, 0), 2);
        C.due("in the heap", d.stock(0, 2), 1);
        C.due("back in all", d.stock(0, 5), 1);
        d.ask(1, 1, 0, 0, 8, 100);
        C.due("joined", d.take(1), 4050);
        C.due("in coins", d.count(10), 998);
        C.due("notes", d.count(4), 0);
        C.due("things return once", d.ask(0, 2, 0, 0, 7, 100), -2);
        C.due("nor are they kept", d.keep(0), -2);
    }

    private static void noteAndGift() {
        ReturnDesk d = sold(0, "refund 40");
        d.sell(0, 8, 0, 0, -1);
        d.sell(0, 9, 0, 0, -1);
        d.sell(0, 10, 0, 0, -1);
        d.gift(1, 1);
        d.ask(0, 0, 0, 0, 7, 500);
        d.ask(1, 2, 0, 0, 8, 500);
        C.due("no proof", d.take(0), 4040);
        C.due("a gift", d.take(1), 4040);
        C.due("notes", d.count(4), 2);
        C.due("the first", d.note(0), 400);
        C.due("the second", d.note(1), 400);
        C.due("its number", d.ofAsking(1, 8), 1);
        C.due("paid", d.ofAsking(1, 7), 400);
        C.due("the till is whole", d.count(5), 4000);
        C.due("nothing to cards", d.count(10), 0);
        C.due("on all notes", d.count(6), 800);
        C.due("note 2", d.note(2), -1);
        C.due("note -1", d.note(-1), -1);
        Checks.text(d, 0, 0, "note 0");
        d.ask(2, 2, 0, 0, 9, 500);
        C.due("a note of nothing", d.take(2), 3000);
        C.due("is a note", d.ofAsking(2, 8), 2);
        C.due("with 0", d.note(2), 0);
        d.ask(3, 2, 0, 0, 10, 500);
        d.gift(3, 1);
        Checks.text(d, 0, 0, "gift:refund 5;no");
        C.due("told a gift behind the asking", d.take(3), 4005);
        C.due("a note", d.note(3), 50);
    }

    private static void swap() {
        ReturnDesk d = new ReturnDesk();
        d.model(0, 100, 0);
        d.model(0, 100, 0);
        d.price(0, 0, 60);
        d.lot(1, 0, 5);
        d.lot(0, 0, 2);
        d.lot(0, 0, 4);
        d.sell(1, 1, 0, 0, -1);
        for (int i = 1; i <= 4; i++) {
            d.sell(2, 1, 0, 0, -1);
        }
        d.lot(0, 0, 1);
        Checks.text(d, 0, 0, "swap");
        for (int i = 0; i < 5; i++) {
            d.ask(i, 2, 0, 0, 1, 100);
        }
        C.due("swap", d.take(0), 2100);
        C.due("out of the least lot", d.sell(1, 1, 0, 0, -1), -2);
        C.due("stock", d.stock(0, 0), 1);
        C.due("nothing paid", d.ofAsking(0, 7), 0);
        C.due("no note", d.ofAsking(0, 8), -1);
        C.due("the sale is back", d.ofSale(0, 0), 2);
        C.due("swap out of lot 3", d.take(1), 2100);
        C.due("none left", d.stock(0, 0), 0);
        C.due("sold of lot 3: a swap is no sale", d.ofLot(3, 0, 0), 0);
        C.due("sort as new", d.sort(0), 0);
        C.due("one of no lot", d.stock(0, 0), 1);
        C.due("no lot sells it", d.sell(1, 1, 0, 0, -1), -2);
        C.due("swap of the sorted one", d.take(2), 2100);
        C.due("no note of it", d.count(4), 0);
        C.due("none again", d.stock(0, 0), 0);
        d.price(0, 0, 70);
        C.due("a note of the price", d.take(3), 2100);
        C.due("as it was sold", d.note(0), 60);
        C.due("paid", d.ofAsking(3, 7), 60);
        C.due("its note", d.ofAsking(3, 8), 0);
        d.sort(1);
        d.lot(0, 0, 1);
        C.due("lots ahead of sorted ones", d.take(4), 2100);
        C.due("the sorted one is there", d.stock(0, 0), 1);
        C.due("the lot is not", d.sell(4, 1, 0, 0, -1), -2);
        C.due("the other model is whole", d.stock(1, 0), 5);
        d.sell(0, 2, 0, 0, -1);
        d.ask(5, 2, 0, 0, 2, 100);
        C.due("swap of the other model", d.take(5), 2100);
        C.due("out of lot 0", d.stock(1, 0), 3);
        C.due("heap", d.stock(0, 2), 3);
    }

    private static void mend() {
        ReturnDesk d = sold(0, "mend");
        d.ask(0, 2, 0, 0, 7, 500);
        C.due("take", d.take(0), 1100);
        C.due("OUT again", d.ofSale(0, 0), 0);
        C.due("not back", d.ofSale(0, 11), -1);
        C.due("spent", d.count(11), 30);
        C.due("till", d.count(5), 970);
        C.due("mended", d.stock(0, 6), 1);
        C.due("heap", d.stock(0, 2), 0);
        C.due("nothing paid", d.ofAsking(0, 7), 0);
        C.due("nor to cards", d.count(10), 0);
        C.due("asked again", d.ask(0, 2, 0, 0, 7, 500), 1);
        C.due("mended again", d.take(1), 1100);
        C.due("twice", d.stock(0, 6), 2);
        C.due("spent twice", d.count(11), 60);
    }

    private static void takeRefused() {
        ReturnDesk d = sold(0, "fault:mend;worn:refund 100;no");
        C.due("asking 0", d.take(0), -1);
        C.due("asking -1", d.take(-1), -1);
        d.ask(0, 2, 0, 110000, 8, 500);
        C.due("swapped", d.take(0), -2);
        C.due("waits still", d.ofAsking(0, 6), 0);
        C.due("asked still", d.ofSale(0, 0), 1);
        d.leave(0);
        C.due("left", d.take(0), -2);
        d.ask(0, 2, 0, 0, 7, 500);
        C.due("the best is no", d.take(1), -2);
        d.leave(1);
        d.ask(0, 2, 0, 1100, 7, 499);
        d.sell(0, 9, 0, 0, -1);
        d.ask(1, 2, 0, 1100, 9, 500);
        C.due("light is no hindrance", d.take(2), 4100);
        C.due("taken", d.take(2), -2);
        d.sell(0, 10, 0, 0, -1);
        d.ask(2, 2, 0, 1100, 10, 500);
        C.due("till 2000", d.take(3), 4100);
        C.due("just enough", d.take(4), 4100);
        C.due("till 0", d.count(5), 0);
        d.price(0, 0, 0);
        d.sell(0, 11, 0, 0, -1);
        d.ask(3, 2, 0, 110000, 11, 500);
        C.due("too few to mend", d.take(5), -2);
        d.till(29);
        C.due("still too few", d.take(5), -2);
        C.due("nothing spent", d.count(11), 0);
        C.due("not BAD", d.ofLot(0, 1, 0), 0);
        d.till(1);
        C.due("just enough to mend", d.take(5), 1100);
        C.due("BAD", d.ofLot(0, 1, 0), 1);
        d.ask(3, 2, 0, 1100, 11, 500);
        C.due("a refund of nothing out of nothing", d.take(6), 4100);
        ReturnDesk e = sold(0, "refund 100");
        e.sell(0, 8, 0, 0, -1);
        e.ask(0, 2, 0, 0, 7, 500);
        e.ask(1, 2, 0, 0, 8, 500);
        e.take(0);
        Checks.text(e, 0, 0, "mend");
        e.sell(0, 9, 0, 0, -1);
        e.ask(2, 2, 0, 0, 9, 500);
        e.take(2);
        Checks.text(e, 0, 0, "refund 100");
        e.take(1);
        C.due("till 970 after all", e.count(5), 970);
        e.ask(2, 2, 0, 0, 9, 500);
        C.due("too few coins", e.take(3), -2);
        C.due("asked still", e.ofSale(2, 0), 1);
        C.due("paid so far", e.count(10), 2000);
        e.gift(2, 1);
        C.due("a gift needs none", e.take(3), 4100);
    }

    /** 600 calls: what is answered behind the 512th is free, but nothing may be thrown. */
    private static void beyondAllCalls() {
        ReturnDesk d = Checks.shop(0);
        Checks.text(d, 0, 0, "note 100");
        for (int i = 0; i < 4; i++) {
            d.lot(0, 0, 50);
        }
        for (int i = 0; i < 200; i++) {
            d.sell(i / 50, 7, 0, 0, -1);
            d.ask(i, 2, 0, 0, 7, 500);
            d.take(i);
        }
        C.due("notes", d.count(4), 200);
        C.due("on all of them", d.count(6), 200000);
        C.due("note 200 of 200", d.note(200), -1);
    }

    private static void leave() {
        ReturnDesk d = sold(0, "refund 100");
        C.due("asking 0", d.leave(0), -1);
        C.due("asking -1", d.leave(-1), -1);
        d.ask(0, 2, 0, 0, 7, 500);
        C.due("left", d.leave(0), 1);
        C.due("OUT", d.ofSale(0, 0), 0);
        C.due("again", d.leave(0), -2);
        d.ask(0, 2, 0, 0, 7, 500);
        d.take(1);
        C.due("taken", d.leave(1), -2);
        C.due("back still", d.ofSale(0, 0), 2);
    }
}
