import java.lang.reflect.Method;
import java.lang.reflect.Modifier;
import java.util.ArrayList;
import java.util.HashMap;
import java.util.List;
import java.util.Map;

/**
 * A desk and the calls that were made on it, each told as it is written, so that a refused call can be tried on a like
 * desk and all that is answered behind it be held against a desk on which it was never made.
 */
final class Scene {
    /** What an object is used for at most; what is answered behind it is free. */
    static final int MOST_CALLS = 512;
    private static final Map<String, Method> FACE = face();

    private final Checks checks;
    private final List<String> made = new ArrayList<>();
    private final ReturnDesk desk = new ReturnDesk();

    Scene(Checks checks) {
        this.checks = checks;
    }

    /** A MODEL of kind 2, 500 grams, mended for 30, at 1000 from DAY 0 on, and a LOT of 50 pieces of it. */
    static Scene shop(Checks checks) {
        return new Scene(checks).calls("model(2, 500, 30)", "price(0, 0, 1000)", "lot(0, 1, 50)");
    }

    /**
     * A desk with something of everything, on DAY 1: SALES 2, 3 and 6 are OUT (6 was mended, 3 was brought), 1 is ASKED,
     * 0 and 5 are BACK (0 was sorted as used and brought damaged, 5 lies in THE HEAP as good as new), 4 is KEPT;
     * ASKINGS 0, 1 and 3 are TAKEN, 2 waits; there are one NOTE, a TEXT of each SIDE, a LIMIT and "refund 37" on THE TAPE.
     */
    static Scene rich(Checks checks) {
        Scene s = new Scene(checks).calls("model(2, 500, 30)", "model(9, 100, 5)", "price(0, 0, 1000)", "price(1, 0, 200)",
            "lot(0, 1, 9)", "lot(1, 2, 9)", "till(5000)");
        s.text(0, 0, "fault:mend;worn>7:no;opened:swap;worn:note 40;refund 50", 0);
        s.text(1, 0, "days<2:note 30;no", 1);
        s.calls("hours(30)", "sell(0, 11, 4001, 105, -1)", "sell(0, 12, 5001, 105, -1)", "sell(1, 13, 0, 60, -1)",
            "sell(0, 14, 0, 206, -1)", "sell(0, 15, 0, 207, -1)", "sell(0, 16, 0, 207, -1)", "sell(0, 17, 0, 208, -1)");
        s.due("ask(5, 2, 0, 0, 16, 500)", 0).due("take(0)", 4050);
        s.due("ask(0, 2, 0, 1100, 11, 500)", 1).due("take(1)", 3040).due("sort(0)", 1);
        s.due("ask(1, 0, 5, 10901, 12, 489)", 2);
        s.due("ask(6, 2, 0, 110000, 17, 500)", 3).due("take(3)", 1100);
        s.calls("keep(4)", "brought(0, 1)", "damage(0)", "brought(3, 2)", "honest(5, 1)", "size(0, 1)");
        s.limit("back", 1);
        return s.tape("refund 37");
    }

    private static Map<String, Method> face() {
        Map<String, Method> found = new HashMap<>();
        for (Method m : ReturnDesk.class.getDeclaredMethods()) {
            if (Modifier.isPublic(m.getModifiers())) {
                found.put(m.getName(), m);
            }
        }
        return found;
    }

    static int answer(ReturnDesk desk, String call) {
        int open = call.indexOf('(');
        String inside = call.substring(open + 1, call.length() - 1).trim();
        String[] told = inside.isEmpty() ? new String[0] : inside.split(" *, *");
        Object[] arguments = new Object[told.length];
        for (int i = 0; i < told.length; i++) {
            arguments[i] = Integer.valueOf(told[i]);
        }
        try {
            return (Integer) FACE.get(call.substring(0, open)).invoke(desk, arguments);
        } catch (ReflectiveOperationException e) {
            throw new IllegalStateException(call, e);
        }
    }

    private ReturnDesk likeDesk() {
        ReturnDesk like = new ReturnDesk();
        for (String call : made) {
            answer(like, call);
        }
        return like;
    }

    int call(String call) {
        made.add(call);
        checks.holds(call + " is among the calls an object is used for", made.size() <= MOST_CALLS);
        return answer(desk, call);
    }

    Scene calls(String... calls) {
        for (String call : calls) {
            checks.holds(call + " is taken", call(call) >= 0);
        }
        return this;
    }

    Scene times(int n, String call) {
        for (int i = 0; i < n; i++) {
            calls(call);
        }
        return this;
    }

    Scene due(String call, int want) {
        checks.due(call, call(call), want);
        return this;
    }

    /** The call is refused, and what follows is as if it hadn't been made. */
    Scene refused(String call, int want) {
        checks.due(call, answer(desk, call), want);
        return likeBehind(call, want, null);
    }

    /** On like desks: what follows the call is as what follows the other one, or as if none had been made (null). */
    Scene likeBehind(String call, int want, String other) {
        ReturnDesk behindCall = likeDesk();
        ReturnDesk behindOther = likeDesk();
        checks.due(call + " on a like desk", answer(behindCall, call), want);
        if (other != null) {
            answer(behindOther, other);
        }
        int room = MOST_CALLS - 1 - made.size();
        List<String> probe = Probe.calls(likeDesk());
        for (int i = 0; i < probe.size() && i < room; i++) {
            String next = probe.get(i);
            checks.due(next + " behind " + call, answer(behindCall, next), answer(behindOther, next));
        }
        return this;
    }

    /** On a like desk the call isn't refused; here it isn't made. */
    Scene mayBe(String call, int refusal) {
        checks.holds(call + " is not refused", answer(likeDesk(), call) != refusal);
        return this;
    }

    /** A number of a call, told as #: the least and the greatest are not refused, the next ones and the farthest are. */
    Scene range(String call, int least, int greatest, int refusal) {
        mayBe(with(call, least), refusal);
        mayBe(with(call, greatest), refusal);
        refused(with(call, least - 1), refusal);
        refused(with(call, greatest + 1), refusal);
        refused(with(call, Integer.MIN_VALUE), refusal);
        refused(with(call, Integer.MAX_VALUE), refusal);
        return this;
    }

    private static String with(String call, int number) {
        return call.replace("#", String.valueOf(number));
    }

    /** THE TAPE holds a string of characters 0 to 255 and no more. */
    Scene tape(String words) {
        calls("end(0)");
        for (int at = 0; at < words.length(); at += 20) {
            StringBuilder feed = new StringBuilder("feed(");
            for (int i = 0; i < 20; i += 4) {
                feed.append(i == 0 ? "" : ", ").append(four(words, at + i));
            }
            calls(feed.append(')').toString());
        }
        return due("end(" + words.length() + ")", words.length());
    }

    private static int four(String words, int at) {
        int bytes = 0;
        for (int i = at; i < at + 4; i++) {
            bytes = bytes << 8 | (i < words.length() ? words.charAt(i) & 255 : ' ');
        }
        return bytes;
    }

    Scene text(int side, int from, String words, int want) {
        return tape(words).due("text(" + side + ", " + from + ")", want);
    }

    Scene limit(String words, int want) {
        return tape(words).due("limit()", want);
    }

    /** Hours go by up to an HOUR. */
    Scene until(int hour) {
        for (int left = hour - answer(desk, "count(7)"); left > 0; left -= 2400) {
            calls("hours(" + Math.min(left, 2400) + ")");
        }
        return due("count(7)", hour);
    }

    /** An ASKING of a SALE by its receipt, with the NUMBER that was sold, and its taking. */
    Scene takeBack(int sale, int facts, int grams, int want) {
        int number = answer(desk, "ofSale(" + sale + ", 4)");
        int asking = call("ask(" + sale + ", 2, 0, " + facts + ", " + number + ", " + grams + ")");
        return due("take(" + asking + ")", want);
    }
}
