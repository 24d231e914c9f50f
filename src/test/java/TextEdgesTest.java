/** The edges of promises 13 to 17 and of THE TAPE: on both sides of each, and that a refused call leaves all as it was. */
public final class TextEdgesTest {
    private static final Checks C = new Checks("edges of texts");
    private static final int BAD = -1, NOT = -2, FULL = -3;
    private static final String BLANKS = "feed(538976288, 538976288, 538976288, 538976288, 538976288)";

    public static void main(String[] args) {
        feed();
        highestFirst();
        end();
        text();
        textsFull();
        emptyThen();
        wholeTape();
        numbers();
        blanks();
        everyByte();
        open();
        openNotWithin();
        endsTooEarly();
        wraps();
        divisions();
        bits();
        shares();
        rules();
        inForce();
        inForceDays();
        says();
        saysToday();
        names();
        month();
        times();
        C.finish();
    }

    /** Promise 13: twenty bytes more; THE TAPE has at most 200. */
    private static void feed() {
        Scene.rich(C).due("feed(-2147483648, 2147483647, -1, 0, 1)", 29);
        Scene s = Scene.shop(C).calls("sell(0, 1, 0, 0, -1)");
        for (int i = 1; i <= 10; i++) {
            s.due(BLANKS, 20 * i);
        }
        s.refused("feed(0, 0, 0, 0, 0)", FULL).due("end(199)", 199).refused("feed(0, 0, 0, 0, 0)", FULL);
        s.due("end(181)", 181).refused("feed(0, 0, 0, 0, 0)", FULL).due("end(180)", 180);
        s.due("feed(538976288, 538976288, 538976288, 538976288, 538996335)", 200).due("text(0, 0)", 0);
    }

    /** The highest of each number first: each of the twenty bytes alone is no blank, and its place is the FAULT. */
    private static void highestFirst() {
        for (int place = 0; place < 20; place++) {
            int[] five = {0x20202020, 0x20202020, 0x20202020, 0x20202020, 0x20202020};
            five[place / 4] ^= 0xe0 << 24 - place % 4 * 8;
            Scene s = new Scene(C);
            s.due("feed(" + five[0] + ", " + five[1] + ", " + five[2] + ", " + five[3] + ", " + five[4] + ")", 20);
            s.due("text(0, 0)", -100 - place);
        }
    }

    /** Promise 14: its first n bytes. */
    private static void end() {
        Scene s = Scene.rich(C);
        s.range("end(#)", 0, 9, BAD);
        s.due("end(9)", 9).due("end(8)", 8).refused("end(9)", BAD).due("text(0, 0)", 2).due("says(0, 3, 0, 2)", 4003);
        s.refused("end(1)", BAD).due("end(0)", 0);
        Scene t = new Scene(C).times(10, BLANKS).range("end(#)", 0, 200, BAD);
        t.due("end(200)", 200).due("end(0)", 0).range("end(#)", 0, 0, BAD);
    }

    /** Promise 15: a SIDE (0, 1), from a DAY on (0 .. 2999); what is BAD leaves THE TAPE, with a FAULT on it too. */
    private static void text() {
        Scene s = Scene.rich(C);
        s.range("text(#, 0)", 0, 1, BAD).range("text(0, #)", 0, 2999, BAD);
        s.tape("refund").range("text(#, 0)", 0, 1, BAD).range("text(0, #)", 0, 2999, BAD).due("count(9)", 6);
    }

    /** Its number (0 .. 19): FULL; BAD is named ahead of it, and a FAULT isn't come to. */
    private static void textsFull() {
        Scene s = Scene.shop(C).calls("sell(0, 1, 0, 0, -1)");
        for (int i = 0; i < 19; i++) {
            s.text(i % 2, 0, "refund " + i, i);
        }
        s.due("count(8)", 19).text(1, 0, "nn", -100).text(1, 0, "refund 77", 19).due("count(8)", 20);
        s.due("inForce(1, 0, 0)", 19).due("says(1, 0, 0, 2)", 4077).due("inForce(0, 0, 0)", 18);
        s.tape("swap").refused("text(0, 0)", FULL).refused("text(1, 2999)", FULL).refused("text(2, 0)", BAD);
        s.refused("text(0, 3000)", BAD).due("count(9)", 4).due("count(8)", 20).due("says(1, 0, 0, 2)", 4077);
        s.tape("nn").refused("text(0, 0)", FULL).refused("text(-1, 0)", BAD);
        s.limit("back", 1);
    }

    /** THE TAPE is empty then: with a TEXT and with a FAULT; a FAULT makes no TEXT. */
    private static void emptyThen() {
        Scene s = Scene.shop(C).calls("sell(0, 1, 0, 0, -1)").text(0, 0, "swap", 0).due("count(9)", 0);
        s.text(0, 0, "mend mend", -105).due("count(9)", 0).due("count(8)", 1).due("inForce(0, 0, 0)", 0);
        s.due("says(0, 0, 0, 2)", 2100).due("text(0, 0)", -100).text(1, 0, "mend", 1);
        String[] faulty = {"", "nn", "swap;", "refund 123456", "(((((((((((1)))))))))))"};
        int[] places = {0, 0, 5, 7, 10};
        for (int i = 0; i < faulty.length; i++) {
            Scene t = Scene.rich(C).tape(faulty[i]);
            t.likeBehind("text(0, 0)", -100 - places[i], "end(0)").likeBehind("text(1, 2999)", -100 - places[i], "end(0)");
        }
    }

    private static void good(String words, int says) {
        Scene s = Scene.shop(C).calls("sell(0, 1, 0, 0, -1)").text(0, 0, words, 0);
        s.due("says(0, 0, 0, 2)", says).due("count(9)", 0);
    }

    private static void fault(String words, int place) {
        new Scene(C).text(1, 0, words, -100 - place).due("count(8)", 0).due("count(9)", 0);
    }

    /** A Q that is not 0. */
    private static void is(String q) {
        good(q + ":swap;mend", 2100);
    }

    private static void isNot(String q) {
        good(q + ":swap;mend", 1100);
    }

    /** At most 200 bytes: all of them are read. */
    private static void wholeTape() {
        good("refund " + "1+".repeat(96) + "9", 4100);
        good("refund " + "0+".repeat(96) + "9", 4009);
        good(" ".repeat(196) + "swap", 2100);
        good("swap" + " ".repeat(196), 2100);
        good("0:no;".repeat(39) + " swap", 2100);
        good("0:no;".repeat(39) + "mend ", 1100);
        fault("0:no;".repeat(39) + "mend;", 200);
        fault(" ".repeat(199) + "n", 199);
        fault(" ".repeat(199) + "0", 200);
        fault(" ".repeat(200), 200);
        fault("a".repeat(200), 0);
        fault("1".repeat(200), 0);
        fault("refund " + "1".repeat(193), 7);
        fault("refund " + "1+".repeat(96) + "+", 199);
        fault(" ".repeat(198) + "n" + (char) 0, 198);
    }

    /** Numbers (1 to 5 digits); of more than 5 digits as a whole. */
    private static void numbers() {
        good("refund 1", 4001);
        good("refund 00000", 4000);
        good("refund 00012", 4012);
        good("refund 99999-99990", 4009);
        is("99999>99998");
        is("99999+1=10*10000");
        fault("refund 000012", 7);
        fault("refund 100000", 7);
        fault("refund 1+123456", 9);
        fault("refund 4294967297", 7);
        fault("refund 12345678901234567890", 7);
        fault("123456:no", 0);
        fault("1 123456:no", 2);
        fault("1 12345:no", 2);
        fault("refund 1234 5", 12);
    }

    /** Blanks may stand between, and must where two words or two numbers would be one. */
    private static void blanks() {
        good("refund40", 4040);
        good("  refund   40  ", 4040);
        good("1and1:swap", 2100);
        good("1and not 0:swap", 2100);
        good("not(0)or(0):swap", 2100);
        good("1 : swap ; mend", 2100);
        good("refund 1 + 2 * ( 3 - 1 )", 4005);
        fault("refunddays", 0);
        fault("notdays:no", 0);
        fault("1 andnot 1:no", 2);
        fault("no no", 3);
        fault("re fund 1", 0);
        fault("refund 4 0", 9);
        fault("swapno", 0);
        fault("1 < = 2:no", 4);
    }

    /** What becomes of "no" with a byte behind it, of a byte ahead of " 1:no", and of a byte between two numbers. */
    private static void everyByte() {
        for (int b = 0; b <= 255; b++) {
            char c = (char) b;
            boolean letter = b >= 97 && b <= 122;
            boolean digit = b >= 48 && b <= 57;
            if (c == ' ') {
                good("no" + c, 0);
                good(c + " 1:no", 0);
                fault("1" + c + "1:no", 2);
                continue;
            }
            fault("no" + c, c == ';' || c == 't' ? 3 : letter ? 0 : 2);
            fault(c + " 1:no", c == '(' ? 3 : digit ? 2 : 0);
            if (digit || "<=>+-*/".indexOf(c) >= 0) {
                good("1" + c + "1:no", 0);
            } else {
                fault("1" + c + "1:no", c == ':' ? 2 : 1);
            }
        }
    }

    /** At most 10 of ( and not are open within one another; FAULT: of the 11th that would be open. */
    private static void open() {
        for (int nots = 0; nots <= 10; nots++) {
            String ten = "not ".repeat(nots) + "(".repeat(10 - nots);
            String closed = ")".repeat(10 - nots);
            good(ten + "1" + closed + ":swap;mend", nots % 2 == 0 ? 2100 : 1100);
            fault(ten + "(1" + closed + "):no", ten.length());
            fault(ten + "not 1" + closed + ":no", ten.length());
        }
        good("refund ((((((((((7))))))))))", 4007);
        fault("refund (((((((((((7)))))))))))", 17);
        good("refund (not (not (not (not (not 0)))))", 4001);
        fault("refund (not (not (not (not (not (0))))))", 32);
        is("(not(not(not(not(not 0)))))");
        fault("(not(not(not(not(not not 0))))):no", 21);
    }

    /** Not within one another: what was closed, and a not behind its B, are open no more. */
    private static void openNotWithin() {
        String ten = "(".repeat(10);
        String closed = ")".repeat(10);
        is(ten + "1" + closed + "*" + ten + "1" + closed);
        is("not 0 and " + ten + "1" + closed);
        is("not 0 or " + ten + "0" + closed);
        is("not 0 and not " + "(".repeat(9) + "0" + ")".repeat(9));
        fault("not " + ten + "1" + closed + ":no", 13);
        fault("not 1<" + ten + "1" + closed + ":no", 15);
        fault("not 1+" + ten + "1" + closed + ":no", 15);
        fault("not 1*" + ten + "1" + closed + ":no", 15);
        fault("(1 and " + ten + "1" + closed + "):no", 16);
        is("1<(2) and " + ten + "1" + closed);
        good(ten + "0" + closed + ":no;" + ten + "1" + closed + ":swap", 2100);
        good(ten + "1" + closed + ":refund " + ten + "8" + closed, 4008);
        good("not 1:no;refund " + ten + "8" + closed, 4008);
        good("not 0:refund " + ten + "8" + closed, 4008);
    }

    /** FAULT: the length, if it ends too early: of each beginning of a TEXT that is none itself. */
    private static void endsTooEarly() {
        String[] beginnings = {"", " ", "1", "1 ", "days", "not", "not not", "(", "(1", "((1)", "1<", "1+", "1*", "1 and",
            "1 or ", "1:", "1: ", "refund", "note ", "refund 1+", "refund (", "refund (1", "refund 1-(2", "no;", "swap; ",
            "1:mend;", "1:no;2", "refund 1;", "note days;not"};
        for (String words : beginnings) {
            fault(words, words.length());
        }
        String[] whole = {"no", "mend", "swap", "note 1", "refund 1", "1:no", "no;no", "refund(1)", "refund days"};
        for (String words : whole) {
            new Scene(C).text(0, 0, words, 0);
        }
    }

    /** Ints that wrap. 32768 * 65535 + 32767 is the greatest int, 32768 * 65536 the least. */
    private static void wraps() {
        String most = "(32768*65535+32767)";
        String least = "(32768*65536)";
        is(most + ">0");
        is(most + "+1<0");
        is(most + "+1=" + least);
        is(least + "-1=" + most);
        is(least + "-1>0");
        is("0-" + least + "=" + least);
        is("0-" + most + "-1=" + least);
        is(most + "*2=0-2");
        is(most + "*" + most + "=1");
        is(least + "*" + least + "=0");
        is("46340*46340>0");
        is("46341*46341<0");
        isNot("65536*65536");
        is("65536*65536+1");
        good("refund " + most, 4100);
        good("refund " + most + "+1", 4000);
        good("note 65536*65536+33", 3033);
    }

    /** / towards 0, by 0 it gives 0. */
    private static void divisions() {
        String least = "(32768*65536)";
        is("7/2=3");
        is("(0-7)/2=0-3");
        is("7/(0-2)=0-3");
        is("(0-7)/(0-2)=3");
        is("1/2=0");
        is("(0-1)/2=0");
        is("7/0=0");
        is("0/0=0");
        is("(0-7)/0=0");
        is(least + "/0=0");
        is(least + "/(0-1)=" + least);
        is(least + "/1=" + least);
        is("100/(1-1)+5=5");
        isNot("5/0");
        good("refund 50/(3-3)", 4000);
    }

    /** < = > and or not give 1, 0. */
    private static void bits() {
        is("(2<3)=1");
        is("(3<3)=0");
        is("(4<3)=0");
        is("(3=3)=1");
        is("(2=3)=0");
        is("(4=3)=0");
        is("(3>2)=1");
        is("(3>3)=0");
        is("(2>3)=0");
        is("0-1<0");
        isNot("0<0-1");
        is("(5 and 7)=1");
        is("(5 and 0)=0");
        is("(0 and 5)=0");
        is("(0 and 0)=0");
        is("(5 or 7)=1");
        is("(5 or 0)=1");
        is("(0 or 5)=1");
        is("(0 or 0)=0");
        is("(not 0)=1");
        is("(not 1)=0");
        is("(not 5)=0");
        is("(not (0-1))=0");
        is("((0-2) and (0-4))=1");
        is("(2 and 4)=1");
    }

    /** E held within 0 .. 100; of swap, mend 100, of no 0. */
    private static void shares() {
        for (String out : new String[] {"note", "refund"}) {
            int base = out.equals("note") ? 3000 : 4000;
            good(out + " 0-1", base);
            good(out + " 0-99999", base);
            good(out + " 0", base);
            good(out + " 1", base + 1);
            good(out + " 99", base + 99);
            good(out + " 100", base + 100);
            good(out + " 101", base + 100);
            good(out + " 99999", base + 100);
        }
        good("swap", 2100);
        good("mend", 1100);
        good("no", 0);
    }

    /** A RULE holds without Q, or if Q is not 0; the first that holds counts; none: no. */
    private static void rules() {
        is("1");
        is("0-1");
        is("99999");
        isNot("0");
        isNot("1-1");
        good("0:swap", 0);
        good("0:swap;0:mend", 0);
        good("0:swap;1:mend;refund 5", 1100);
        good("0:swap;0:mend;refund 5", 4005);
        good("refund 5;swap", 4005);
        good("1:no;swap", 0);
    }

    /** Promise 16: a SIDE, a SALE, a DAY k (0 .. 2999); NOT: none, BAD named ahead of it. */
    private static void inForce() {
        Scene s = Scene.rich(C);
        s.range("inForce(#, 3, 1)", 0, 1, BAD).range("inForce(0, #, 1)", 0, 6, BAD).range("inForce(0, 3, #)", 0, 2999, BAD);
        s.due("inForce(0, 0, 0)", 0).due("inForce(1, 6, 2999)", 1);
        Scene t = Scene.shop(C).calls("sell(0, 1, 0, 0, -1)");
        t.refused("inForce(0, 0, 0)", NOT).refused("inForce(1, 0, 2999)", NOT);
        t.refused("inForce(0, 0, 3000)", BAD).refused("inForce(2, 0, 0)", BAD).refused("inForce(0, 1, 0)", BAD);
        t.due("says(0, 0, 0, 0)", 0).text(1, 0, "swap", 0).refused("inForce(0, 0, 0)", NOT).due("inForce(1, 0, 0)", 0);
        t.due("says(0, 0, 0, 0)", 0).due("says(1, 0, 0, 0)", 2100);
    }

    /** Those made on DAY k or ahead, for its DAY or an earlier one: the one made last. */
    private static void inForceDays() {
        Scene s = Scene.shop(C).until(2 * 24).text(0, 5, "refund 10", 0).until(4 * 24 + 23).calls("sell(0, 1, 0, 0, -1)");
        s.until(5 * 24).calls("sell(0, 1, 0, 0, -1)");
        s.due("inForce(0, 0, 2999)", NOT).due("inForce(0, 1, 1)", NOT).due("inForce(0, 1, 2)", 0).due("inForce(0, 1, 3)", 0);
        s.until(6 * 24).text(0, 4, "refund 20", 1).due("inForce(0, 0, 5)", NOT).due("inForce(0, 0, 6)", 1);
        s.due("inForce(0, 1, 5)", 0).due("inForce(0, 1, 6)", 1);
        s.text(0, 5, "refund 30", 2).due("inForce(0, 0, 6)", 1).due("inForce(0, 1, 6)", 2);
        s.text(0, 0, "refund 40", 3).due("inForce(0, 1, 6)", 3).due("inForce(0, 1, 5)", 0).due("inForce(0, 0, 6)", 3);
        s.text(0, 6, "refund 50", 4).due("inForce(0, 1, 6)", 3).text(1, 0, "swap", 5).due("inForce(0, 1, 6)", 3);
        s.until(71999).text(0, 2999, "no", 6).calls("sell(0, 1, 0, 0, -1)").due("inForce(0, 2, 2998)", 4);
        s.due("inForce(0, 2, 2999)", 6).due("inForce(0, 1, 2999)", 3);
    }

    /** Promise 17: days 0 .. 999, fault (0, 1), worn (0 .. 9), opened (0, 1), PROOF 0 .. 2. */
    private static void says() {
        Scene s = Scene.rich(C);
        s.range("says(#, 3, 0, 2)", 0, 1, BAD).range("says(0, #, 0, 2)", 0, 6, BAD).range("says(0, 3, 0, #)", 0, 2, BAD);
        s.range("says(0, 3, #, 2)", 0, 1, BAD).range("says(0, 3, #, 2)", 10, 11, BAD);
        int[] taken = {0, 1, 10, 11, 20, 90, 91, 100, 101, 110, 191, 1000, 1191, 999000, 999191};
        for (int facts : taken) {
            s.mayBe("says(0, 3, " + facts + ", 2)", BAD);
        }
        int[] bad = {2, 9, 12, 19, 92, 99, 102, 192, 199, 200, 201, 299, 900, 991, 999, 1002, 1200, 999192, 999200, 999999,
            1000000, 1000001, -1, -10, -100, -1000, -999191};
        for (int facts : bad) {
            s.refused("says(0, 3, " + facts + ", 2)", BAD);
        }
        Scene t = Scene.shop(C).calls("sell(0, 1, 0, 0, -1)");
        t.text(0, 0, "refund (days=999)+2*(fault=1)+4*(worn=9)+8*(opened=1)+16*(proof=2)", 0);
        t.due("says(0, 0, 999191, 2)", 4031).due("says(0, 0, 998191, 2)", 4030).due("says(0, 0, 999091, 2)", 4029);
        t.due("says(0, 0, 999181, 2)", 4027).due("says(0, 0, 999190, 2)", 4023).due("says(0, 0, 999191, 1)", 4015);
        t.due("says(0, 0, 0, 0)", 4000).due("says(0, 0, 1, 0)", 4008).due("says(0, 0, 90, 0)", 4004);
        t.due("says(0, 0, 100, 0)", 4002).due("says(0, 0, 999000, 0)", 4001);
    }

    /** AS KNOWN TODAY: a TEXT made TODAY counts, whatever state the SALE is in. */
    private static void saysToday() {
        Scene s = Scene.shop(C).calls("sell(0, 1, 0, 0, -1)").text(0, 0, "refund 1", 0).due("says(0, 0, 0, 2)", 4001);
        s.text(0, 0, "refund 2", 1).due("says(0, 0, 0, 2)", 4002).until(23).due("says(0, 0, 0, 2)", 4002);
        s.text(0, 1, "refund 3", 2).due("says(0, 0, 0, 2)", 4002).until(24).due("says(0, 0, 0, 2)", 4002);
        s.calls("sell(0, 1, 0, 0, -1)").due("says(0, 1, 0, 2)", 4003).takeBack(1, 0, 500, 4003);
        s.due("says(0, 1, 0, 2)", 4003).calls("keep(0)").due("says(0, 0, 0, 2)", 4002);
    }

    /** NAMES at their least and greatest. */
    private static void names() {
        Scene s = new Scene(C).calls("model(9, 99999, 9999)", "model(0, 1, 0)", "price(0, 0, 99999)");
        s.calls("lot(0, 9, 3)", "lot(1, 0, 1)", "sell(0, 999999, 20999, 999959, -1)", "sell(1, 1, 0, 60, -1)");
        s.calls("sell(0, 1, 999, 0, -1)", "gift(0, 1)");
        s.text(0, 0, "refund (price=99999)+2*(size=20)+4*(kind=9)+8*(gift=1)+16*(threes=2)+32*(times=0)", 0);
        s.due("says(0, 0, 0, 0)", 4063);
        s.text(0, 0, "refund (price=0)+2*(size=0)+4*(kind=0)+8*(gift=0)+16*(threes=1)+32*(times=0)", 1);
        s.due("says(0, 1, 0, 0)", 4063).due("says(0, 2, 0, 0)", 4000 + 2 + 8 + 32);
    }

    /** month (of the SALE: DAY / 30 % 12). */
    private static void month() {
        Scene s = Scene.shop(C).text(0, 0, "refund month", 0);
        int[] days = {0, 29, 30, 59, 60, 359, 360, 389, 390, 719, 720, 2969, 2970, 2999};
        int[] months = {0, 0, 1, 1, 2, 11, 0, 0, 1, 11, 0, 2, 3, 3};
        for (int i = 0; i < days.length; i++) {
            s.until(24 * days[i]).calls("sell(0, 1, 0, 0, -1)").due("says(0, " + i + ", 0, 0)", 4000 + months[i]);
        }
        s.until(71999).calls("sell(0, 1, 0, 0, -1)").due("says(0, 14, 0, 0)", 4003).due("says(0, 0, 0, 0)", 4000);
    }

    /** times: came BACK on the ASKING's DAY or the 359 ahead of it, as told by now; 0 if not known. */
    private static void times() {
        Scene s = Scene.shop(C).text(0, 0, "refund 10+times", 0).times(5, "sell(0, 1, 0, 59, -1)");
        s.times(2, "sell(0, 1, 0, 60, -1)").calls("sell(0, 1, 0, 0, -1)", "sell(0, 1, 0, 58, -1)");
        s.until(40 * 24 + 23).takeBack(0, 0, 500, 4010).takeBack(5, 0, 500, 4010).takeBack(7, 0, 500, 4010);
        s.until(41 * 24).takeBack(1, 0, 500, 4011).due("says(0, 4, 0, 2)", 4012);
        s.until(399 * 24 + 23).due("says(0, 4, 0, 2)", 4012).until(400 * 24).due("says(0, 4, 0, 2)", 4011);
        s.due("ask(4, 2, 0, 0, 1, 500)", 4).due("ask(8, 2, 0, 0, 1, 500)", 5).due("ask(6, 0, 0, 0, 1, 500)", 6);
        s.due("judged(4, 400, 0)", 4011).takeBack(2, 0, 500, 4011).due("judged(4, 400, 0)", 4012);
        s.until(401 * 24).due("says(0, 4, 0, 2)", 4011).takeBack(3, 0, 500, 4011).due("says(0, 4, 0, 2)", 4012);
        s.due("judged(4, 400, 0)", 4012).due("judged(4, 2999, 1)", 4012).due("judged(5, 400, 0)", 4010);
        s.due("judged(6, 400, 0)", 4010).due("says(0, 6, 0, 2)", 4010).due("take(4)", 4012);
        // It came BACK behind the ASKING's DAY, so that it doesn't count there itself.
        s.due("judged(4, 400, 0)", 4012).due("says(0, 4, 0, 2)", 4013);
    }
}
