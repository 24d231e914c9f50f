import java.util.Random;

/** Strings of THE TAPE's grammar, some of them spoilt. */
final class RandomTexts {
    private static final String[] FACTS = {"days", "fault", "worn", "opened", "proof", "gift", "kind", "price", "size",
        "month", "threes", "times"};
    private static final String[] HABITS = {"bought", "back", "share", "spent", "lately"};
    private static final String[] OUTS = {"no", "mend", "swap", "note", "refund"};
    private static final String[] SPOILS = {"no", "not ", "(", ")", ";", ":", "<", "=", ">", "+", "-", "*", "/", " and ",
        " or ", "days", "bought", "refund ", "7", "123456", "00012", "\t", "\0", "\u00e9", "A", " ", ""};

    private final Random random;
    private String[] names = FACTS;

    RandomTexts(Random random) {
        this.random = random;
    }

    String text() {
        names = FACTS;
        String text = rule();
        for (int i = random.nextInt(4); i > 0; i--) {
            text += pad(";") + rule();
        }
        return finish(text);
    }

    String limit() {
        names = HABITS;
        return finish(either(2));
    }

    private String finish(String text) {
        String done = text;
        while (random.nextInt(4) == 0) {
            int at = random.nextInt(done.length() + 1);
            int to = Math.min(done.length(), at + random.nextInt(3));
            done = done.substring(0, at) + SPOILS[random.nextInt(SPOILS.length)] + done.substring(to);
        }
        return done.length() > 200 ? done.substring(0, 200) : done;
    }

    private String pad(String sign) {
        return random.nextInt(3) == 0 ? " " + sign + " " : sign;
    }

    private String rule() {
        return random.nextInt(4) == 0 ? out() : either(2) + pad(":") + out();
    }

    private String out() {
        String out = OUTS[Math.min(4, random.nextInt(6))];
        boolean hasShare = out.equals("note") || out.equals("refund");
        return hasShare ? out + " " + (random.nextInt(3) == 0 ? sum(2) : number(120)) : out;
    }

    private String either(int depth) {
        String q = both(depth);
        return random.nextInt(4) == 0 ? q + " or " + both(depth) : q;
    }

    private String both(int depth) {
        String q = test(depth);
        return random.nextInt(3) == 0 ? q + " and " + test(depth) : q;
    }

    private String test(int depth) {
        if (random.nextInt(6) == 0) {
            String not = "not ";
            return (random.nextInt(8) == 0 ? not.repeat(random.nextInt(11)) : not) + test(depth);
        }
        String relation = pad(String.valueOf("<=>".charAt(random.nextInt(3))));
        return random.nextInt(4) == 0 ? sum(depth) : sum(depth) + relation + sum(depth);
    }

    private String sum(int depth) {
        String s = product(depth);
        return random.nextInt(4) == 0 ? s + pad(random.nextBoolean() ? "+" : "-") + product(depth) : s;
    }

    private String product(int depth) {
        String p = operand(depth);
        return random.nextInt(5) == 0 ? p + pad(random.nextBoolean() ? "*" : "/") + operand(depth) : p;
    }

    private String operand(int depth) {
        if (depth > 0 && random.nextInt(6) == 0) {
            int more = random.nextInt(10) == 0 ? random.nextInt(11) : 1;
            return "(".repeat(more) + either(depth - 1) + ")".repeat(more);
        }
        return random.nextInt(3) == 0 ? number(random.nextInt(6) == 0 ? 99999 : 12) : names[random.nextInt(names.length)];
    }

    private String number(int below) {
        return String.valueOf(random.nextInt(below + 1));
    }
}
