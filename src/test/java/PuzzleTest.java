/** Promises 26 to 29, 32, 33, 36, 37: thoughts about numbers, kin and traits. */
public final class PuzzleTest {
    private static final int MIN = Integer.MIN_VALUE;
    private static final int MAX = Integer.MAX_VALUE;

    public static void main(String[] args) {
        ring();
        pairs();
        pairsOrder();
        walk();
        prices();
        cold();
        alike();
        left();
        signs();
        Check.finish();
    }

    private static ClaspedFair people(int n) {
        ClaspedFair x = new ClaspedFair();
        for (int p = 0; p < n; p++) {
            x.person(0, 10 * p);
        }
        return x;
    }

    /** Of pairs of digits, a for 10 and b for 11. */
    private static void kin(ClaspedFair x, String pairs) {
        StringBuilder text = new StringBuilder();
        int lines = 0;
        for (String pair : pairs.isEmpty() ? new String[0] : pairs.split(" ")) {
            text.append("person ").append(Character.digit(pair.charAt(0), 16));
            text.append(" kin ").append(Character.digit(pair.charAt(1), 16)).append(";");
            lines++;
        }
        Check.dueText(x, 3, text.toString(), lines);
    }

    private static void ring() {
        ClaspedFair x = new ClaspedFair();
        int[] due = {1, 1, 2, 5, 14, 42, 132, 429, 1430, 4862, 16796, 58786, 208012};
        for (int n = 0; n <= 24; n++) {
            Check.due("ring(" + n + ")", x.ring(n), n % 2 == 0 ? due[n / 2] : 0);
        }
        for (int n : new int[] {-1, -2, 25, 26, MAX, MIN}) {
            Check.due("ring(" + n + ")", x.ring(n), -1);
        }
    }

    private static void duePairs(ClaspedFair x, int many, int... with) {
        Check.due("pairs(0)", x.pairs(0), many);
        for (int p = 0; p < with.length; p++) {
            Check.due("pairs(10 + " + p + ")", x.pairs(10 + p), with[p]);
        }
        Check.due("pairs of none such", x.pairs(10 + with.length), -1);
    }

    private static void pairs() {
        ClaspedFair x = people(0);
        duePairs(x, 0);
        x.person(0, 0);
        duePairs(x, 0, -1);
        x.person(0, 0);
        duePairs(x, 1, 1, 0);
        x.person(0, 0);
        duePairs(x, 1, 1, 0, -1);
        for (int what : new int[] {-1, 1, 9, 22, MAX, MIN}) {
            Check.due("pairs(" + what + ")", x.pairs(what), -1);
        }
        kin(x, "01");
        duePairs(x, 1, 2, -1, 0);
        kin(x, "01 20");
        duePairs(x, 1, -1, 2, 1);
        kin(x, "01 20 21");
        duePairs(x, 0, -1, -1, -1);
    }

    private static void pairsOrder() {
        ClaspedFair x = people(4);
        // 0 can be with 1, but then 2 and 3 are kin: the most comes first.
        kin(x, "23");
        duePairs(x, 2, 2, 3, 0, 1);
        kin(x, "23 02");
        duePairs(x, 2, 3, 2, 1, 0);
        kin(x, "01 02 03");
        duePairs(x, 1, -1, 2, 1, -1);
        ClaspedFair y = people(12);
        duePairs(y, 6, 1, 0, 3, 2, 5, 4, 7, 6, 9, 8, 11, 10);
        kin(y, "01 02 03 04 05 06 07 08 09 0a 0b");
        duePairs(y, 5, -1, 2, 1, 4, 3, 6, 5, 8, 7, 10, 9, -1);
        kin(y, "b0 b1 b2 b3 b4 b5 b6 b7 b8 b9 ba 01");
        duePairs(y, 5, 2, 3, 0, 1, 5, 4, 7, 6, 9, 8, -1, -1);
        kin(y, "ab 89 67");
        duePairs(y, 6, 1, 0, 3, 2, 5, 4, 8, 10, 6, 11, 7, 9);
    }

    private static void dueWalk(ClaspedFair x, String kin, int whether, int where) {
        kin(x, kin);
        Check.due("walk(0) of " + kin, x.walk(0), whether);
        Check.due("walk(1) of " + kin, x.walk(1), where);
    }

    private static void walk() {
        ClaspedFair x = people(12);
        for (int what : new int[] {-1, 2, MAX, MIN}) {
            Check.due("walk(" + what + ")", x.walk(what), -1);
        }
        dueWalk(x, "", 0, -1);
        dueWalk(x, "53", 1, 3);
        dueWalk(x, "53 35 53", 1, 3);
        dueWalk(x, "53 31", 1, 1);
        dueWalk(x, "35 56 63", 2, 3);
        dueWalk(x, "35 56 63 78", 0, -1);
        dueWalk(x, "35 56 63 89 9a a8", 0, -1);
        dueWalk(x, "35 56 63 39 9a a3", 2, 3);
        dueWalk(x, "01 02 03", 0, -1);
        dueWalk(x, "01 02 03 23", 1, 0);
        dueWalk(x, "01 12 20 13 3b", 1, 1);
        dueWalk(x, "01 12 23 30 02 4b", 0, -1);
        dueWalk(x, "01 12 23 30 02", 1, 0);
        dueWalk(x, "01 12 23 30 13", 1, 1);
        dueWalk(x, "01 12 23 30 13 20", 0, -1);
        dueWalk(x, "ab", 1, 10);
    }

    private static boolean canPay(int v, int a, int b) {
        for (int rest = v; rest >= 0; rest -= a) {
            if (rest % b == 0) {
                return true;
            }
        }
        return false;
    }

    private static void prices() {
        ClaspedFair x = new ClaspedFair();
        for (int a = 2; a <= 60; a++) {
            for (int b = 2; b <= 60; b += a % 7 == 0 ? 1 : 5) {
                int greatest = -1;
                int many = 0;
                for (int v = 1; v < 3600; v++) {
                    if (!canPay(v, a, b)) {
                        greatest = v;
                        many++;
                    }
                }
                boolean common = java.math.BigInteger.valueOf(a).gcd(java.math.BigInteger.valueOf(b)).intValue() > 1;
                Check.due("prices(" + a + ", " + b + ", 0)", x.prices(a, b, 0), common ? -1 : greatest);
                Check.due("prices(" + a + ", " + b + ", 1)", x.prices(a, b, 1), common ? -1 : many);
            }
        }
        Check.due("prices(59, 60, 0)", x.prices(59, 60, 0), 59 * 60 - 59 - 60);
        for (int w : new int[] {1, 0, -1, 61, MAX, MIN}) {
            Check.due("prices(" + w + ", 7, 0)", x.prices(w, 7, 0), -1);
            Check.due("prices(7, " + w + ", 1)", x.prices(7, w, 1), -1);
        }
        for (int w : new int[] {-1, 2, MAX, MIN}) {
            Check.due("prices(5, 7, " + w + ")", x.prices(5, 7, w), -1);
        }
    }

    private static void cold() {
        ClaspedFair x = people(12);
        Check.due("no kin", x.cold(5, -1), 0);
        Check.due("no kin", x.cold(5, 20), 1);
        kin(x, "01 12 23 34 45 56 67 78 89 9a ab");
        Check.due("from an end", x.cold(0, -1), 11);
        Check.due("from the other end", x.cold(11, -1), 11);
        Check.due("from the midst", x.cold(5, -1), 6);
        for (int n = 0; n <= 20; n++) {
            Check.due("by day " + n, x.cold(0, n), Math.min(12, 1 + n));
            Check.due("by day " + n, x.cold(11, n), Math.min(12, 1 + n));
        }
        Check.due("by day 2", x.cold(5, 2), 5);
        kin(x, "01 12 20 34");
        Check.due("a ring", x.cold(1, -1), 1);
        Check.due("a ring", x.cold(1, 20), 3);
        Check.due("others", x.cold(3, 1), 2);
        for (int n : new int[] {-2, 21, MAX, MIN}) {
            Check.due("cold(0, " + n + ")", x.cold(0, n), -1);
        }
        for (int p : new int[] {-1, 12, MAX, MIN}) {
            Check.due("cold(" + p + ", 0)", x.cold(p, 0), -1);
            Check.due("cold(" + p + ", NONE)", x.cold(p, -1), -1);
        }
    }

    private static void alike() {
        ClaspedFair x = new ClaspedFair();
        x.person(0, 500);
        Check.due("alone", x.alike(0, -1), -1);
        x.person(0, 0);
        x.person(0, 999);
        Check.due("alike(0, 1)", x.alike(0, 1), 2500);
        Check.due("alike(1, 0)", x.alike(1, 0), 2500);
        Check.due("alike(1, 2)", x.alike(1, 2), 4995);
        Check.due("alike(1, 1)", x.alike(1, 1), 0);
        Check.due("nearest to 0", x.alike(0, -1), 2);
        Check.due("nearest to 1", x.alike(1, -1), 0);
        x.set(4, 2, 994);
        x.set(0, 0, 497);
        x.set(1, 0, 502);
        Check.due("trait by trait", x.alike(0, 2), 3 * 499 - 5 + 502 + 497);
        Check.due("trait by trait", x.alike(0, 1), 2499);
        x.set(4, 2, 999);
        x.set(0, 0, 500);
        x.set(1, 0, 500);
        x.person(0, 999);
        Check.due("of several the least", x.alike(0, -1), 2);
        x.person(0, 500);
        Check.due("the same as he", x.alike(0, -1), 4);
        for (int p : new int[] {-1, 5, -2, MAX, MIN}) {
            Check.due("alike(" + p + ", 0)", x.alike(p, 0), -1);
            Check.due("alike(" + p + ", NONE)", x.alike(p, -1), -1);
            if (p != -1) {
                Check.due("alike(0, " + p + ")", x.alike(0, p), -1);
            }
        }
    }

    private static void left() {
        ClaspedFair x = new ClaspedFair();
        x.person(0, 0);
        Check.due("all alike: the least", x.left(0, 0), 0);
        Check.due("alone he has most of all", x.left(0, 1), 5);
        x.person(0, 0);
        Check.due("alike others", x.left(0, 1), 0);
        x.set(3, 0, 7);
        x.set(4, 0, 7);
        x.set(4, 1, 8);
        x.set(2, 1, 1);
        Check.due("most of", x.left(0, 0), 3);
        Check.due("most of", x.left(1, 0), 4);
        Check.due("led", x.left(0, 1), 1);
        Check.due("led", x.left(1, 1), 2);
        x.person(0, 7);
        Check.due("led", x.left(0, 1), 0);
        Check.due("led", x.left(1, 1), 1);
        Check.due("led", x.left(2, 1), 3);
        for (int what : new int[] {-1, 2, MAX, MIN}) {
            Check.due("left(0, " + what + ")", x.left(0, what), -1);
        }
        for (int p : new int[] {-1, 3, MAX, MIN}) {
            Check.due("left(" + p + ", 0)", x.left(p, 0), -1);
            Check.due("left(" + p + ", 1)", x.left(p, 1), -1);
        }
    }

    private static void signs() {
        ClaspedFair x = new ClaspedFair();
        int[] due = {1, 2, 4, 7, 12, 21, 37, 65, 114, 200, 351, 616, 1081, 1897, 3329, 5842, 10252, 17991, 31572, 55405};
        for (int n = 1; n <= 20; n++) {
            Check.due("signs(" + n + ")", x.signs(n), due[n - 1]);
        }
        for (int n : new int[] {0, -1, 21, MAX, MIN}) {
            Check.due("signs(" + n + ")", x.signs(n), -1);
        }
    }
}
