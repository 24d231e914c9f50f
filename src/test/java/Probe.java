import java.util.ArrayList;
import java.util.List;

/** Calls that show, all together, what a desk holds: those that only ask first, then those that change it. */
final class Probe {
    private static final int MOST_OF_A_KIND = 7;

    private final ReturnDesk desk;
    private final List<String> calls = new ArrayList<>();
    private final int today;

    private Probe(ReturnDesk desk) {
        this.desk = desk;
        this.today = desk.count(7) / 24;
    }

    static List<String> calls(ReturnDesk desk) {
        Probe probe = new Probe(desk);
        probe.ask();
        probe.change();
        return probe.calls;
    }

    /** The first and the last of what a count tells. */
    private List<Integer> some(int what) {
        List<Integer> found = new ArrayList<>();
        int n = desk.count(what);
        for (int i = 0; i < n; i++) {
            if (i < MOST_OF_A_KIND / 2 || i > n - 1 - MOST_OF_A_KIND + MOST_OF_A_KIND / 2) {
                found.add(i);
            }
        }
        return found;
    }

    private void add(String name, int... arguments) {
        StringBuilder call = new StringBuilder(name).append('(');
        for (int i = 0; i < arguments.length; i++) {
            call.append(i == 0 ? "" : ", ").append(arguments[i]);
        }
        calls.add(call.append(')').toString());
    }

    private void each(String name, int number, int from, int to) {
        for (int what = from; what <= to; what++) {
            add(name, number, what);
        }
    }

    private void ask() {
        for (int what = 0; what <= 11; what++) {
            add("count", what);
        }
        int lastSale = desk.count(2) - 1;
        int lastAsking = desk.count(3) - 1;
        each("ofSale", lastSale, 0, 12);
        each("ofAsking", lastAsking, 0, 9);
        for (int model : some(0)) {
            each("stock", model, 0, 6);
            add("priceOn", model, today);
            add("priceOn", model, 2999);
            add("shift", model);
        }
        for (int lot : some(1)) {
            add("ofLot", lot, 0, today);
            add("ofLot", lot, 1, today);
            add("since", lot, 9000);
        }
        for (int note : some(4)) {
            add("note", note);
        }
        each("carrier", 1, 0, 1);
        each("carrier", 2, 0, 1);
        for (int which = 0; which <= 3; which++) {
            add("tried", which);
        }
        for (int asking : some(3)) {
            add("ofAsking", asking, 6);
            add("judged", asking, today, 0);
            add("judged", asking, today, 1);
        }
        for (int sale : some(2)) {
            add("ofSale", sale, 0);
            add("inForce", 0, sale, today);
            add("inForce", 1, sale, today);
            add("says", 0, sale, 10, 2);
            each("worth", sale, 0, 3);
        }
    }

    private void change() {
        // What THE TAPE holds is seen by the TEXT that it makes.
        add("text", 0, 0);
        add("says", 0, 0, 10, 2);
        for (int buyer : new int[] {0, 5, 59}) {
            add("hits", buyer);
            add("honest", buyer, 0);
        }
        for (int sale : some(2)) {
            add("size", sale, 0);
            add("gift", sale, 0);
            add("brought", sale, 4);
            add("damage", sale);
        }
        for (int asking : some(3)) {
            add("take", asking);
            add("leave", asking);
        }
        for (int sale : some(2)) {
            add("ask", sale, 2, 0, 0, Math.max(1, desk.ofSale(sale, 4)), 500);
            add("sort", sale);
            add("keep", sale);
        }
        add("model", 0, 1, 0);
        for (int model : some(0)) {
            add("sellUsed", model);
            add("price", model, 0, 5);
            add("lot", model, 0, 1);
        }
        for (int lot : some(1)) {
            add("sell", lot, 1, 0, 0, desk.count(4) - 1);
        }
        add("feed", 1, 2, 3, 4, 5);
        add("hours", 1);
        for (int what = 0; what <= 11; what++) {
            add("count", what);
        }
    }
}
