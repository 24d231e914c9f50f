/** What every test of the project uses: answers that are due, and THE TAPE fed from a string. */
final class Checks {
    private final String about;
    private int asked;
    private int wrong;

    Checks(String about) {
        this.about = about;
    }

    void due(String call, int got, int want) {
        asked++;
        if (got != want) {
            wrong++;
            System.out.println(about + ": " + call + " answered " + got + ", due is " + want);
        }
    }

    void holds(String what, boolean is) {
        asked++;
        if (!is) {
            wrong++;
            System.out.println(about + ": " + what + " does not hold");
        }
    }

    void finish() {
        System.out.println(about + ": " + asked + " asked, " + wrong + " wrong");
        if (wrong != 0) {
            System.exit(1);
        }
    }

    /** Feeds a string of characters 0 to 255 behind what THE TAPE has, and cuts off the filling. */
    static int feed(ReturnDesk desk, String text) {
        int had = desk.count(9);
        for (int at = 0; at < text.length(); at += 20) {
            int[] five = new int[5];
            for (int i = 0; i < 20; i++) {
                char c = at + i < text.length() ? text.charAt(at + i) : ' ';
                five[i / 4] |= (c & 255) << 24 - i % 4 * 8;
            }
            int answer = desk.feed(five[0], five[1], five[2], five[3], five[4]);
            if (answer < 0) {
                return answer;
            }
        }
        return desk.end(had + text.length());
    }

    /** Makes a TEXT of a string: what text answers. */
    static int text(ReturnDesk desk, int side, int from, String text) {
        desk.end(0);
        feed(desk, text);
        return desk.text(side, from);
    }

    static int limit(ReturnDesk desk, String text) {
        desk.end(0);
        feed(desk, text);
        return desk.limit();
    }

    /** A desk with a MODEL of kind 2, 500 grams, mended for 30, at 1000 from DAY 0, a LOT of 50, and coins. */
    static ReturnDesk shop(int coins) {
        ReturnDesk desk = new ReturnDesk();
        desk.model(2, 500, 30);
        desk.price(0, 0, 1000);
        desk.lot(0, 1, 50);
        if (coins > 0) {
            desk.till(coins);
        }
        return desk;
    }

    /** Lets DAYS go by. */
    static void days(ReturnDesk desk, int n) {
        for (int left = n; left > 0; left -= 100) {
            desk.hours(24 * Math.min(left, 100));
        }
    }
}
