/** Promises 13 to 17: feed, end, text, inForce, says; THE TAPE's grammar and FAULT. */
public final class TextsTest {
    private static final Checks C = new Checks("texts");

    public static void main(String[] args) {
        feed();
        end();
        text();
        textFull();
        faults();
        goodTexts();
        inForce();
        says();
        names();
        times();
        C.finish();
    }

    private static void feed() {
        ReturnDesk d = new ReturnDesk();
        for (int i = 1; i <= 10; i++) {
            C.due("feed", d.feed(0, -1, 0, 0, 0), 20 * i);
        }
        C.due("beyond 200", d.feed(0, 0, 0, 0, 0), -3);
        d.end(181);
        C.due("no room for 20", d.feed(0, 0, 0, 0, 0), -3);
        C.due("nothing changed", d.count(9), 181);
        d.end(180);
        C.due("just room", d.feed(0, 0, 0, 0, 0), 200);
        d.end(0);
        d.feed(0x6e6f2020, 0x20202020, 0x20202020, 0x20202020, 0x20202020);
        C.due("the highest byte first", d.text(0, 0), 0);
        d.feed(0x20202020, 0x20202020, 0x20202020, 0x20202020, 0x20206e6f);
        C.due("the last byte last", d.text(0, 0), 1);
        d.feed(0xee6f2020, 0, 0, 0, 0);
        C.due("a byte above 127 is no letter", d.text(0, 0), -100);
    }

    private static void end() {
        ReturnDesk d = new ReturnDesk();
        C.due("0 of 0", d.end(0), 0);
        C.due("1 of 0", d.end(1), -1);
        d.feed(1, 2, 3, 4, 5);
        C.due("-1", d.end(-1), -1);
        C.due("21 of 20", d.end(21), -1);
        C.due("all", d.end(20), 20);
        C.due("some", d.end(7), 7);
        C.due("what is gone", d.end(8), -1);
        C.due("count", d.count(9), 7);
    }

    private static void text() {
        ReturnDesk d = new ReturnDesk();
        Checks.feed(d, "no");
        C.due("side 2", d.text(2, 0), -1);
        C.due("side -1", d.text(-1, 0), -1);
        C.due("from -1", d.text(0, -1), -1);
        C.due("from 3000", d.text(0, 3000), -1);
        C.due("the tape is as it was", d.count(9), 2);
        C.due("first", d.text(0, 2999), 0);
        C.due("the tape is empty", d.count(9), 0);
        Checks.feed(d, "no no");
        C.due("fault", d.text(0, 0), -103);
        C.due("the tape is empty too", d.count(9), 0);
        C.due("none more", d.count(8), 1);
    }

    private static void textFull() {
        ReturnDesk d = new ReturnDesk();
        for (int i = 0; i < 20; i++) {
            C.due("text", Checks.text(d, i % 2, 0, "swap"), i);
        }
        C.due("the 21st", Checks.text(d, 0, 0, "swap"), -3);
        C.due("the tape is as it was", d.count(9), 4);
        C.due("BAD ahead of FULL", d.text(2, 0), -1);
        C.due("20", d.count(8), 20);
    }

    private static void fault(String text, int place) {
        ReturnDesk d = new ReturnDesk();
        C.due("text '" + text + "'", Checks.text(d, 0, 0, text), -100 - place);
        C.due("no text of '" + text + "'", d.count(8), 0);
    }

    private static void faults() {
        fault("", 0);
        fault("   ", 3);
        fault("no;", 3);
        fault("no; ", 4);
        fault("no;;no", 3);
        fault(";no", 0);
        fault("ref", 0);
        fault("refund", 6);
        fault("refund ", 7);
        fault("refund no", 7);
        fault("refund :", 7);
        fault("refund 5;", 9);
        fault("refund 5 5", 9);
        fault("refund not 1", 7);
        fault("refund 1<2", 8);
        fault("refund 1 and 2", 9);
        fault("refund 1 or 2", 9);
        fault("refund 123456", 7);
        fault("refund -1", 7);
        fault("refund 1+", 9);
        fault("refund 1+*", 9);
        fault("swap 100", 5);
        fault("mend;note", 9);
        fault("no:no", 2);
        fault("1", 1);
        fault("1 ", 2);
        fault("1:", 2);
        fault("1:2", 2);
        fault("1:days:no", 2);
        fault("1:no:no", 4);
        fault("1:refund 2:no", 10);
        fault("days days:no", 5);
        fault("days 1:no", 5);
        fault("days31:no", 4);
        fault("1 2:no", 2);
        fault("day:no", 0);
        fault("Days:no", 0);
        fault("nofault", 0);
        fault("1<=2:no", 2);
        fault("1<2=3:no", 3);
        fault("1<not 2:no", 2);
        fault("1+not 2:no", 2);
        fault("1 not 2:no", 2);
        fault("and 1:no", 0);
        fault("1 and:no", 5);
        fault("1 or or 2:no", 5);
        fault("not:no", 3);
        fault("not no", 4);
        fault("():no", 1);
        fault("(1:no", 2);
        fault("(1", 2);
        fault("(1;", 2);
        fault("1):no", 1);
        fault("(1)):no", 3);
        fault("(no):no", 1);
        fault("(1)2:no", 3);
        fault("(1)(2):no", 3);
        fault("refund (1", 9);
        fault("refund (1))", 10);
        fault("no\t", 2);
        fault("\tno", 0);
        fault("no\0", 2);
        fault("no,no", 2);
        fault("1&2:no", 1);
        fault("no" + (char) 255, 2);
        fault("1 000001:no", 2);
        fault("bought>1:no", 0);
        fault("((((((((((1))))))))))", 21);
        fault("(((((((((((", 10);
        fault("not(not(not(not(not(1 and not 1)))))) :no", 26);
        fault("not(not(not(not(not(not 1))))):no", 20);
        fault("refund (((((((((((1)))))))))))", 17);
        fault("((((((((((not 1)))))))))):no", 10);
        fault("1 and not not not not not not not not not not (1):no", 46);
        fault("1+".repeat(100), 200);
        fault("1+".repeat(99) + "1)", 199);
        fault("no;".repeat(66) + "nn", 198);
        fault("no;".repeat(66) + "  ", 200);
    }

    private static void good(String text, int says) {
        ReturnDesk d = Checks.shop(0);
        d.sell(0, 1, 0, 0, -1);
        C.due("text '" + text + "'", Checks.text(d, 1, 0, text), 0);
        C.due("says '" + text + "'", d.says(1, 0, 0, 0), says);
    }

    private static void goodTexts() {
        good("no", 0);
        good("  no  ", 0);
        good("mend", 1100);
        good("swap", 2100);
        good("note 40", 3040);
        good("refund 40", 4040);
        good("refund40", 4040);
        good("refund(40)", 4040);
        good("refund 00040", 4040);
        good("refund 101", 4100);
        good("refund 99999", 4100);
        good("refund 0-1", 4000);
        good("note 0", 3000);
        good("refund 100-7-3", 4090);
        good("refund 100/10/3", 4003);
        good("refund 2+3*4", 4014);
        good("refund (2+3)*4", 4020);
        good("refund 7/2*2", 4006);
        good("refund (0-7)/2+50", 4047);
        good("refund 5/0+3", 4003);
        good("refund (5/0)", 4000);
        good("refund 50+(0-7)*(0-2)", 4064);
        good("refund 99999*99999/10000/10000", 4014);
        good("refund 65536*32768/65536+32778", 4010);
        good("refund (65536*32768)/(0-1)+(65536*32768)+9", 4009);
        good("refund (3 or 0)*10", 4010);
        good("refund (3 and 2)*10", 4010);
        good("refund (3)*10", 4030);
        good("refund (not 3)*10", 4000);
        good("refund (not 0)*10", 4010);
        good("refund (2<3)*10+(3<2)", 4010);
        good("refund (3>2)*10+(2>3)", 4010);
        good("refund (2=2)*10+(2=3)", 4010);
        good("1:swap;mend", 2100);
        good("0:swap;mend", 1100);
        good("0:swap", 0);
        good("0-5:swap;mend", 2100);
        good("0:swap;0:mend;1:note 7;no", 3007);
        good("no;swap", 0);
        good("1and 1or 0:swap;no", 2100);
        good("0 and 1 or 1:swap;no", 2100);
        good("1 or 1 and 0:swap;no", 2100);
        good("(1 or 1) and 0:swap;no", 0);
        good("not 1<0:swap;no", 2100);
        good("not 0 and 0:swap;no", 0);
        good("not not 7 = 7:swap;no", 2100);
        good("1+1<1*3:swap;no", 2100);
        good("1 < 2 and 3 > 2 and 2 = 2:swap", 2100);
        good("(1<2)=1:swap", 2100);
        good("1=(2>1):swap", 2100);
        good("((((((((((1)))))))))):swap", 2100);
        good("not not not not not not not not not not 1:swap", 2100);
        good("not(not(not(not(not(0))))):swap", 2100);
        good("not 0 and not 0 and not 0 and not 0 and not 0 and not 0 and not 0 and not 0 and not 0 and not 0 and"
            + " not 0 and not 0 and not 0 and not 0:swap", 2100);
        good("(1)+(1)+(1)+(1)+(1)+(1)+(1)+(1)+(1)+(1)+(1)+(1)=12:swap", 2100);
        good("refund ((((((((((11))))))))))", 4011);
        good("1+".repeat(98) + "1:no", 0);
        good("0+".repeat(96) + "1:swap", 2100);
        good("no;".repeat(66) + "no", 0);
        good("0:swap;".repeat(28) + "swap", 2100);
        good("not ".repeat(10) + "1+".repeat(70) + "1=71:swap", 2100);
    }

    private static void inForce() {
        ReturnDesk d = Checks.shop(0);
        d.sell(0, 1, 0, 0, -1);
        C.due("none", d.inForce(0, 0, 0), -2);
        C.due("says without any", d.says(0, 0, 0, 2), 0);
        Checks.text(d, 0, 0, "swap");
        Checks.text(d, 1, 2, "mend");
        C.due("the law", d.inForce(0, 0, 0), 0);
        C.due("the word is for later sales", d.inForce(1, 0, 2999), -2);
        Checks.days(d, 2);
        d.sell(0, 1, 0, 0, -1);
        C.due("for its day", d.inForce(1, 1, 2), 1);
        Checks.text(d, 0, 1, "refund 50");
        C.due("known on day 1", d.inForce(0, 1, 1), 0);
        C.due("known on day 2", d.inForce(0, 1, 2), 2);
        C.due("for sales from day 1", d.inForce(0, 0, 2), 0);
        Checks.text(d, 0, 0, "no");
        C.due("made last, though for an earlier day", d.inForce(0, 1, 2), 3);
        C.due("of days to come", d.inForce(0, 0, 2999), 3);
        C.due("says as known today", d.says(0, 1, 0, 2), 0);
        C.due("side 2", d.inForce(2, 0, 0), -1);
        C.due("side -1", d.inForce(-1, 0, 0), -1);
        C.due("sale 2", d.inForce(0, 2, 0), -1);
        C.due("sale -1", d.inForce(0, -1, 0), -1);
        C.due("k -1", d.inForce(0, 0, -1), -1);
        C.due("k 3000", d.inForce(0, 0, 3000), -1);
    }

    private static void says() {
        ReturnDesk d = Checks.shop(0);
        d.sell(0, 1, 0, 0, -1);
        Checks.text(d, 0, 0, "refund days/10*(days>0)*(fault=0);");
        Checks.text(d, 0, 0, "refund days/11+fault+worn-9*(opened=0)-(worn=9)");
        C.due("facts", d.says(0, 0, 990101, 0), 4091);
        C.due("greatest", d.says(0, 0, 999191, 2), 4099);
        C.due("proof -1", d.says(0, 0, 0, -1), -1);
        C.due("proof 3", d.says(0, 0, 0, 3), -1);
        C.due("facts -1", d.says(0, 0, -1, 0), -1);
        C.due("days 1000", d.says(0, 0, 1000000, 0), -1);
        C.due("fault 2", d.says(0, 0, 200, 0), -1);
        C.due("opened 2", d.says(0, 0, 2, 0), -1);
        C.due("worn 9", d.says(0, 0, 90, 0), 4000);
        C.due("side 2", d.says(2, 0, 0, 0), -1);
        C.due("sale 1", d.says(0, 1, 0, 0), -1);
        C.due("sale -1", d.says(0, -1, 0, 0), -1);
        C.due("side without text", d.says(1, 0, 0, 0), 0);
        C.due("days as told, whatever the proof", d.says(0, 0, 110001, 2), 4010);
    }

    private static int named(ReturnDesk d, String name, int sale, int facts, int proof) {
        Checks.text(d, 1, 0, "refund " + name);
        return d.says(1, sale, facts, proof);
    }

    private static void names() {
        ReturnDesk d = Checks.shop(0);
        d.price(0, 0, 88);
        Checks.days(d, 30 * 17 + 29);
        d.sell(0, 1, 20007, 0, -1);
        d.sell(0, 1, 7, 1, -1);
        d.gift(0, 1);
        C.due("days", named(d, "days", 0, 37000, 0), 4037);
        C.due("fault", named(d, "fault", 0, 100, 0), 4001);
        C.due("worn", named(d, "worn", 0, 80, 0), 4008);
        C.due("opened", named(d, "opened", 0, 1, 0), 4001);
        C.due("proof", named(d, "proof", 0, 0, 2), 4002);
        C.due("gift", named(d, "gift", 0, 0, 2), 4001);
        C.due("not a gift", named(d, "gift", 1, 0, 2), 4000);
        C.due("kind", named(d, "kind", 0, 0, 2), 4002);
        C.due("price", named(d, "price", 0, 0, 2), 4088);
        C.due("size", named(d, "size", 0, 0, 2), 4020);
        C.due("month", named(d, "month", 0, 0, 2), 4005);
        C.due("threes", named(d, "threes", 0, 0, 2), 4002);
        C.due("times", named(d, "times", 0, 0, 2), 4000);
        Checks.days(d, 1);
        d.sell(0, 1, 0, 60, -1);
        C.due("the next month", named(d, "month", 2, 0, 2), 4006);
        d.price(0, 0, 99);
        C.due("price of the sale, not of today", named(d, "price", 0, 0, 2), 4088);
    }

    private static void times() {
        ReturnDesk d = Checks.shop(9000);
        Checks.text(d, 0, 0, "refund 1+times");
        for (int i = 0; i < 6; i++) {
            d.sell(0, 1, 0, i < 4 ? 5 : i == 4 ? 6 : 60, -1);
        }
        d.sell(0, 1, 0, 60, -1);
        d.ask(0, 2, 0, 0, 1, 500);
        C.due("none yet", d.take(0), 4001);
        C.due("itself too, once it is back that day", d.judged(0, 0, 0), 4002);
        C.due("one today", d.says(0, 1, 0, 2), 4002);
        C.due("of the buyer alone", d.says(0, 4, 0, 2), 4001);
        d.ask(5, 2, 0, 0, 1, 500);
        d.take(1);
        C.due("not known", d.says(0, 6, 0, 2), 4001);
        d.ask(1, 2, 0, 0, 1, 500);
        d.ask(2, 2, 0, 0, 1, 500);
        C.due("of the asking's day", d.judged(2, 0, 0), 4002);
        d.hours(24);
        d.take(3);
        C.due("not what came back later", d.judged(2, 0, 0), 4002);
        C.due("today it counts", d.says(0, 3, 0, 2), 4003);
        Checks.days(d, 358);
        C.due("359 days ago", d.says(0, 3, 0, 2), 4003);
        d.hours(24);
        C.due("360 days ago", d.says(0, 3, 0, 2), 4002);
        d.hours(24);
        C.due("both too long ago", d.says(0, 3, 0, 2), 4001);
        C.due("as of the asking's day still", d.judged(2, 2999, 0), 4002);
    }
}
