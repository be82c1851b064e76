/** Promises 16 to 18 and what THE LAW tells. */
public final class LawTest {
    private static final int MIN = Integer.MIN_VALUE;
    private static final int MAX = Integer.MAX_VALUE;

    public static void main(String[] args) {
        withoutLaw();
        wrongInputs();
        words();
        arithmetic();
        conditions();
        firstLine();
        held();
        Check.finish();
    }

    private static ClaspedFair market() {
        ClaspedFair x = new ClaspedFair();
        x.person(1000, 100);
        x.person(500, 300);
        x.person(9999, 999);
        x.horse(0, 400, 5);
        x.horse(1, 50, 9);
        return x;
    }

    private static void withoutLaw() {
        ClaspedFair x = market();
        for (int grip = 1; grip <= 9; grip++) {
            for (int t = 0; t < 5; t++) {
                Check.due("passes", x.passes(0, 1, grip, t), 20 * grip);
            }
            Check.due("holds", x.holds(0, 1, grip), 100);
            Check.due("asks", x.asks(1, 0, grip), 400 - 10 * grip);
        }
        Check.due("asks is not below 0", x.asks(0, 1, 6), 0);
        Check.due("asks", x.asks(2, 1, 5), 0);
        Check.due("asks", x.asks(2, 1, 4), 10);
        x.hand(0, 1);
        for (int i = 1; i <= 12; i++) {
            x.clasp(0, 1, 1);
            Check.due("holds of b", x.holds(2, 1, 1), Math.max(0, 100 - 10 * i));
            Check.due("holds of one who never shook", x.holds(1, 2, 1), 100);
        }
        x.hand(0, 2);
        Check.due("a sling is no matter in thought", x.passes(0, 1, 2, 0), 40);
        Check.due("a sling is no matter in thought", x.holds(0, 2, 2), 100);
        Check.due("a sling is no matter in thought", x.asks(1, 0, 2), 380);
    }

    private static void wrongInputs() {
        ClaspedFair x = market();
        int[][] wrong = {{-1, 0, 1, 0}, {0, -1, 1, 0}, {3, 0, 1, 0}, {0, 3, 1, 0}, {1, 1, 1, 0}, {0, 1, 0, 0},
            {0, 1, 10, 0}, {MIN, 1, 1, 0}, {0, MAX, 1, 0}, {0, 1, MAX, 0}, {0, 1, MIN, 0}};
        for (int[] w : wrong) {
            Check.due("passes", x.passes(w[0], w[1], w[2], w[3]), -1);
            Check.due("holds", x.holds(w[0], w[1], w[2]), -1);
        }
        int[] traits = {-1, 5, MAX, MIN};
        for (int t : traits) {
            Check.due("passes of trait " + t, x.passes(0, 1, 1, t), -1);
        }
        int[][] wrongAsks = {{0, 0, 1}, {1, 1, 1}, {3, 0, 1}, {-1, 0, 1}, {1, -1, 1}, {1, 2, 1}, {1, 0, 0}, {1, 0, 10},
            {1, MAX, 1}, {MIN, 0, 1}, {1, 0, MIN}};
        for (int[] w : wrongAsks) {
            Check.due("asks", x.asks(w[0], w[1], w[2]), -1);
        }
    }

    /** What each of the three tells for a law that has one word alone. */
    private static void word(ClaspedFair x, String word, int passes, int holds, int asks) {
        Check.dueText(x, 0, "passes " + word + ";holds " + word + ";asks " + word + ";", 3);
        Check.due("passes " + word, x.passes(0, 1, 3, 2), passes);
        Check.due("holds " + word, x.holds(0, 1, 3), holds);
        Check.due("asks " + word, x.asks(1, 0, 3), asks);
    }

    private static void words() {
        ClaspedFair x = market();
        x.days(7);
        for (int t = 0; t < 5; t++) {
            x.set(t, 0, 10 + t);
            x.set(t, 1, 30 + t);
        }
        x.set(5, 0, 111);
        x.set(5, 1, 222);
        x.hand(2, 1);
        x.clasp(0, 2, 1);
        x.clasp(2, 1, 1);
        x.clasp(1, 2, 1);
        word(x, "trait", 2, 0, 0);
        word(x, "own", 12, 30, 0);
        word(x, "other", 32, 10, 0);
        word(x, "grip", 3, 3, 3);
        word(x, "price", 0, 0, 0);
        word(x, "worth", 0, 0, 400);
        word(x, "spirit", 0, 0, 5);
        word(x, "shook", 1, 2, 1);
        word(x, "purse", 111, 222, 111);
        word(x, "kin", 0, 0, 0);
        word(x, "day", 7, 7, 7);
        word(x, "17", 17, 17, 17);
        Check.dueText(x, 3, "person 1 kin 0;", 1);
        word(x, "kin", 1, 1, 1);
        Check.due("passes the other way", x.passes(1, 0, 3, 2), 1);
        Check.due("kin of others", x.passes(0, 2, 3, 2), 0);
        Check.dueText(x, 3, "person 0 kin 1;", 1);
        word(x, "kin", 1, 1, 1);
        Check.due("asks of another owner", x.asks(2, 1, 3), 0);
        // In a bargain the price is the one offered, and the horse's are there for all three.
        x.hand(2, 0);
        Check.dueText(x, 0, "asks price - 1;passes price + worth + spirit * 10;holds 0;", 3);
        Check.due("passed", x.buys(1, 0, 50, 1), 29 + 79);
    }

    private static void sum(ClaspedFair x, String sum, int asks) {
        Check.dueText(x, 0, "asks " + sum + ";", 1);
        Check.due("asks " + sum, x.asks(1, 0, 3), asks);
    }

    private static void arithmetic() {
        ClaspedFair x = market();
        sum(x, "1+2*3", 7);
        sum(x, "2*3+1", 7);
        sum(x, "100-30-20", 50);
        sum(x, "100-30+20", 90);
        sum(x, "100-2*3*4-1", 75);
        sum(x, "7/2*2", 6);
        sum(x, "7*2/2", 7);
        sum(x, "100/7/2", 7);
        sum(x, "100+100/7/2*3", 121);
        sum(x, "5-6", 0);
        sum(x, "10+0-7/2", 7);
        // A part of what is below 0 comes from a product that wraps; it goes towards 0 (downwards it would be 4).
        sum(x, "8192*8192*32/7+9999*9999+9999*9999+9999*9999+9999*684+4064", 5);
        sum(x, "8192*8192*64+3", 3);
        sum(x, "8192*8192*32+1", 0);
        sum(x, "8192*8192*32-1", 9999);
        sum(x, "worth*spirit-grip*grip", 1991);
        sum(x, "worth-1-1-1-1-1-1-1-1-1", 391);
        sum(x, "1*2*3*4*5*6*7", 5040);
        sum(x, "8000+8000", 9999);
        sum(x, "9999", 9999);
    }

    private static void when(ClaspedFair x, String condition, boolean so) {
        Check.dueText(x, 0, "asks 1 when " + condition + ";asks 2;", 2);
        Check.due(condition, x.asks(1, 0, 3), so ? 1 : 2);
    }

    private static void conditions() {
        ClaspedFair x = market();
        when(x, "1<2", true);
        when(x, "2<2", false);
        when(x, "2=2", true);
        when(x, "1=2", false);
        when(x, "2>1", true);
        when(x, "2>2", false);
        when(x, "0-5<0", true);
        when(x, "1+1=4/2", true);
        when(x, "not 1=2", true);
        when(x, "not not 1=2", false);
        when(x, "1=2 or 1=1", true);
        when(x, "1=2 or 1=3", false);
        when(x, "1=1 and 1=2", false);
        when(x, "1=1 and 2=2", true);
        when(x, "1=1 or 1=1 and 1=2", true);
        when(x, "1=2 and 1=1 or 1=1", true);
        when(x, "1=2 and (1=1 or 1=1)", false);
        when(x, "(1=1 or 1=1) and 1=2", false);
        when(x, "1=2 and 1=2 or 1=1 and 1=2", false);
        when(x, "1=2 or 1=2 and 1=1 or 1=1", true);
        when(x, "1=1 and 1=1 and 1=1 and 1=2", false);
        when(x, "not 1=2 and 1=2", false);
        when(x, "not (1=2 and 1=2)", true);
        when(x, "not 1=1 or 1=1", true);
        when(x, "not (1=1 or 1=1)", false);
        when(x, "((1=1))and(not(2=3))", true);
        when(x, "worth>399 and worth<401 and grip=3 and spirit=5", true);
    }

    private static void firstLine() {
        ClaspedFair x = market();
        Check.dueText(x, 0, "passes 1 when trait=4;passes 2 when trait>1;asks 9;passes 3 when trait=0;", 4);
        int[] due = {3, 20, 2, 2, 1};
        for (int t = 0; t < 5; t++) {
            Check.due("passes of trait " + t, x.passes(0, 1, 1, t), due[t]);
        }
        Check.due("holds has no line", x.holds(0, 1, 1), 100);
        Check.due("asks", x.asks(1, 0, 1), 9);
        Check.dueText(x, 0, "passes 5;passes 6;", 2);
        Check.due("the first one", x.passes(0, 1, 1, 0), 5);
        Check.dueText(x, 0, "asks 5 when 1=2;", 1);
        Check.due("none is so", x.asks(1, 0, 1), 390);
    }

    private static void held() {
        ClaspedFair x = market();
        Check.dueText(x, 0, "passes 1000;holds 1000;", 2);
        Check.due("passes", x.passes(0, 1, 1, 0), 1000);
        Check.due("holds", x.holds(0, 1, 1), 1000);
        Check.dueText(x, 0, "passes 1001;holds 1001;asks 9999+1;", 3);
        Check.due("passes", x.passes(0, 1, 1, 0), 1000);
        Check.due("holds", x.holds(0, 1, 1), 1000);
        Check.due("asks", x.asks(1, 0, 1), 9999);
        Check.dueText(x, 0, "passes 0-1;holds 0-1;asks 0-1;", 3);
        Check.due("passes", x.passes(0, 1, 1, 0), 0);
        Check.due("holds", x.holds(0, 1, 1), 0);
        Check.due("asks", x.asks(1, 0, 1), 0);
    }
}
