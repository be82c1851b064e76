/** Promises 22 to 25, 30, 31, 34, 35, 38, 39: what is told for thought alone. */
public final class ToldTest {
    private static final int MIN = Integer.MIN_VALUE;
    private static final int MAX = Integer.MAX_VALUE;

    public static void main(String[] args) {
        told();
        came();
        number();
        could();
        couldAll();
        weight();
        balance();
        herd();
        pens();
        row();
        game();
        gameToTheEnd();
        Check.finish();
    }

    private static void told() {
        ClaspedFair x = new ClaspedFair();
        x.days(1);
        int[][] wrong = {{0, 0}, {11, 11}, {12, 0}, {0, 12}, {0, -1}, {-2, 0}, {MAX, 0}, {0, MIN}, {MIN, 0}};
        for (int[] w : wrong) {
            Check.due("told(" + w[0] + ", " + w[1] + ")", x.told(w[0], w[1]), -1);
        }
        for (int i = 1; i <= 16; i++) {
            Check.due("told", x.told(0, 11), i);
        }
        Check.due("the seventeenth", x.told(0, 1), -1);
        Check.due("none is odd", x.came(-1, -1), 0);
        Check.due("told(NONE)", x.told(-1, 5), 0);
        Check.due("told", x.told(0, 1), 1);
        Check.due("odd", x.came(-1, -1), 3);
        Check.due("told(NONE, NONE)", x.told(-1, -1), 0);
        Check.due("none", x.came(-1, -1), 0);
        Check.due("nothing is forgotten", x.look(11), 1);
    }

    private static void came() {
        ClaspedFair x = new ClaspedFair();
        x.told(5, 6);
        x.told(0, 5);
        x.told(5, 7);
        x.told(7, 11);
        x.told(6, 0);
        Check.due("reached of 0", x.came(0, -1), 1 | 1 << 5 | 1 << 6 | 1 << 7 | 1 << 11);
        Check.due("reached of 6", x.came(6, -1), 1 | 1 << 5 | 1 << 6 | 1 << 7 | 1 << 11);
        Check.due("reached of 11", x.came(11, -1), 1 << 7 | 1 << 11);
        Check.due("reached of 3", x.came(3, -1), 1 << 3);
        Check.due("0 to 6", x.came(0, 6), 4);
        Check.due("6 to 0", x.came(6, 0), 1);
        Check.due("0 to 11", x.came(0, 11), 3);
        Check.due("11 to 0", x.came(11, 0), -1);
        Check.due("5 to 6", x.came(5, 6), 0);
        Check.due("3 to 4", x.came(3, 4), -1);
        Check.due("alike", x.came(5, 5), -1);
        Check.due("odd", x.came(-1, 0), 1 << 5 | 1 << 11);
        for (int w : new int[] {12, -2, MAX, MIN}) {
            Check.due("came(" + w + ", NONE)", x.came(w, -1), -1);
            Check.due("came(" + w + ", 0)", x.came(w, 0), -1);
            Check.due("came(0, " + w + ")", x.came(0, w), -1);
        }
    }

    private static void number() {
        ClaspedFair x = new ClaspedFair();
        x.days(1);
        for (int w : new int[] {-2, 9, MAX, MIN}) {
            Check.due("number(" + w + ")", x.number(w), -1);
        }
        for (int i = 1; i <= 9; i++) {
            Check.due("number", x.number(8), i);
        }
        Check.due("the tenth", x.number(0), -1);
        Check.due("could", x.could(), 1);
        Check.due("number(NONE)", x.number(-1), 0);
        Check.due("number", x.number(0), 1);
        Check.due("nothing is forgotten", x.look(11), 1);
    }

    private static void couldOf(int due, int... numbers) {
        ClaspedFair x = new ClaspedFair();
        for (int n : numbers) {
            x.number(n);
        }
        Check.due("could of " + java.util.Arrays.toString(numbers), x.could(), due);
    }

    private static void could() {
        couldOf(1);
        couldOf(1, 0);
        couldOf(0, 1);
        couldOf(0, 2);
        couldOf(1, 1, 1);
        couldOf(0, 1, 0);
        couldOf(0, 2, 2);
        couldOf(1, 0, 1, 2, 1);
        couldOf(1, 3, 3, 3, 3);
        couldOf(0, 3, 3, 3, 1);
        couldOf(0, 4, 4, 4, 1, 1, 0);
        couldOf(1, 8, 1, 1, 1, 1, 1, 1, 1, 1);
        couldOf(0, 8, 1, 1, 1, 1, 1, 1, 1, 0);
        couldOf(0, 8, 8, 8, 1, 1, 1, 1, 1, 2);
        couldOf(1, 0, 0, 0, 0, 0, 0, 0, 0, 0);
        couldOf(1, 2, 1, 2, 1);
    }

    /** All graphs of five: just their rows of numbers could have been shaken. */
    private static void couldAll() {
        boolean[] seen = new boolean[3125];
        for (int graph = 0; graph < 1 << 10; graph++) {
            int[] shook = new int[5];
            int line = 0;
            for (int a = 0; a < 5; a++) {
                for (int b = 0; b < a; b++) {
                    shook[a] += graph >> line & 1;
                    shook[b] += graph >> line & 1;
                    line++;
                }
            }
            seen[shook[0] + 5 * shook[1] + 25 * shook[2] + 125 * shook[3] + 625 * shook[4]] = true;
        }
        ClaspedFair x = new ClaspedFair();
        for (int i = 0; i < seen.length; i++) {
            x.number(-1);
            for (int rest = i, k = 0; k < 5; k++, rest /= 5) {
                x.number(rest % 5);
            }
            Check.due("could of code " + i, x.could(), seen[i] ? 1 : 0);
        }
    }

    private static void weight() {
        ClaspedFair x = new ClaspedFair();
        x.days(1);
        for (int w : new int[] {0, -2, 201, MAX, MIN}) {
            Check.due("weight(" + w + ")", x.weight(w), -1);
        }
        for (int i = 1; i <= 5; i++) {
            Check.due("weight", x.weight(200), i);
        }
        Check.due("the sixth", x.weight(1), -1);
        Check.due("all of them", x.balance(1000, 1), 1);
        Check.due("all of them", x.balance(1000, 0), 1);
        Check.due("four of them", x.balance(800, 1), 1);
        Check.due("one more", x.balance(801, 0), 0);
        Check.due("from 1 on none", x.balance(0, 2), 0);
        Check.due("weight(NONE)", x.weight(-1), 0);
        Check.due("none", x.balance(200, 0), 0);
        Check.due("weight(1)", x.weight(1), 1);
        Check.due("nothing is forgotten", x.look(11), 1);
    }

    private static void balance() {
        ClaspedFair x = new ClaspedFair();
        for (int w : new int[] {1, 3, 9, 27, 81}) {
            x.weight(w);
        }
        for (int v = 0; v <= 130; v++) {
            Check.due("both sides, " + v, x.balance(v, 0), v <= 121 ? 1 : 0);
        }
        Check.due("the greatest", x.balance(0, 2), 121);
        Check.due("v is not asked", x.balance(MIN, 2), 121);
        Check.due("v is not asked", x.balance(1001, 2), 121);
        Check.due("one side", x.balance(2, 1), 0);
        Check.due("one side", x.balance(13, 1), 1);
        Check.due("one side", x.balance(121, 1), 1);
        for (int v : new int[] {-1, 1001, MAX, MIN}) {
            Check.due("balance(" + v + ", 0)", x.balance(v, 0), -1);
            Check.due("balance(" + v + ", 1)", x.balance(v, 1), -1);
        }
        for (int what : new int[] {-1, 3, MAX, MIN}) {
            Check.due("balance(0, " + what + ")", x.balance(0, what), -1);
        }
        x.weight(-1);
        x.weight(2);
        x.weight(3);
        Check.due("1 to 3", x.balance(0, 2), 3);
        Check.due("not 4", x.balance(4, 0), 0);
        Check.due("5", x.balance(5, 0), 1);
        Check.due("1 on both", x.balance(1, 0), 1);
        Check.due("1 on one", x.balance(1, 1), 0);
        Check.due("0 on one", x.balance(0, 1), 1);
    }

    private static void herd() {
        ClaspedFair x = new ClaspedFair();
        x.days(1);
        for (int w : new int[] {0, -2, 31, MAX, MIN}) {
            Check.due("herd(" + w + ")", x.herd(w), -1);
        }
        for (int i = 1; i <= 7; i++) {
            Check.due("herd", x.herd(30), i);
        }
        Check.due("the eighth", x.herd(1), -1);
        Check.due("all in one", x.pens(1, 0), 210);
        Check.due("herd(NONE)", x.herd(-1), 0);
        Check.due("none", x.pens(3, 0), 0);
        Check.due("herd(1)", x.herd(1), 1);
        Check.due("nothing is forgotten", x.look(11), 1);
    }

    private static void pensOf(int k, int fullest, int level, int... herds) {
        ClaspedFair x = new ClaspedFair();
        for (int h : herds) {
            x.herd(h);
        }
        Check.due("pens of " + java.util.Arrays.toString(herds) + " into " + k, x.pens(k, 0), fullest);
        Check.due("level of " + java.util.Arrays.toString(herds) + " into " + k, x.pens(k, 1), level);
    }

    private static void pens() {
        ClaspedFair x = new ClaspedFair();
        for (int k : new int[] {0, -1, 5, MAX, MIN}) {
            Check.due("pens(" + k + ", 0)", x.pens(k, 0), -1);
        }
        for (int what : new int[] {-1, 2, MAX, MIN}) {
            Check.due("pens(1, " + what + ")", x.pens(1, what), -1);
        }
        pensOf(1, 0, 0);
        pensOf(4, 0, 0);
        pensOf(1, 12, 0, 5, 4, 3);
        pensOf(2, 7, 2, 5, 4, 3);
        pensOf(3, 5, 2, 5, 4, 3);
        pensOf(4, 5, 5, 5, 4, 3);
        pensOf(2, 10, 1, 4, 5, 6, 4);
        // The one of 20 is the fullest whatever is done: the others are shared as evenly as can be.
        pensOf(3, 20, 16, 20, 1, 2, 3, 2);
        pensOf(3, 20, 15, 20, 5, 5);
        pensOf(4, 30, 0, 30, 15, 15, 10, 20, 29, 1);
        pensOf(3, 9, 0, 9, 8, 7, 1, 2);
        // Sharing the greatest first gives 11 here.
        pensOf(2, 9, 0, 5, 4, 3, 3, 3);
    }

    private static void row() {
        ClaspedFair x = new ClaspedFair();
        x.days(1);
        for (int w : new int[] {0, -2, 21, MAX, MIN}) {
            Check.due("row(" + w + ")", x.row(w), -1);
        }
        for (int i = 1; i <= 6; i++) {
            Check.due("row", x.row(20), i);
        }
        Check.due("the seventh", x.row(1), -1);
        Check.due("even", x.game(0), -1);
        Check.due("row(NONE)", x.row(-1), 0);
        Check.due("none", x.game(0), -1);
        Check.due("row(1)", x.row(1), 1);
        Check.due("one", x.game(0), 0);
        Check.due("nothing is forgotten", x.look(11), 1);
    }

    private static void gameOf(int row, int place, int many, int... rows) {
        ClaspedFair x = new ClaspedFair();
        for (int r : rows) {
            x.row(r);
        }
        int[] due = {row, place, many};
        for (int what = 0; what < 3; what++) {
            Check.due("game(" + what + ") of " + java.util.Arrays.toString(rows), x.game(what), due[what]);
        }
        for (int what : new int[] {-1, 3, MAX, MIN}) {
            Check.due("game(" + what + ")", x.game(what), -1);
        }
    }

    private static void game() {
        gameOf(-1, -1, -1);
        gameOf(0, 0, 1, 1);
        gameOf(0, 0, 2, 2);
        gameOf(0, 1, 1, 3);
        gameOf(0, 1, 2, 4);
        gameOf(0, 2, 1, 5);
        gameOf(-1, -1, -1, 3, 3);
        gameOf(-1, -1, -1, 1, 2, 3);
        gameOf(0, 0, 1, 2, 1);
        gameOf(1, 0, 1, 1, 2);
        gameOf(0, 0, 1, 4, 3);
        gameOf(0, 0, 2, 3, 4);
        gameOf(0, 0, 2, 4, 2);
        gameOf(0, 9, 2, 20);
        gameOf(0, 1, 2, 19);
    }

    /** Whether who begins wins, by trying all turns to the end. */
    private static boolean wins(int hands, int length) {
        for (int i = 0; i < length; i++) {
            int one = 1 << i;
            int two = 3 << i;
            if ((hands & one) != 0 && !wins(hands ^ one, length)) {
                return true;
            }
            if (i + 1 < length && (hands & two) == two && !wins(hands ^ two, length)) {
                return true;
            }
        }
        return false;
    }

    private static void gameToTheEnd() {
        ClaspedFair x = new ClaspedFair();
        for (int a = 1; a <= 5; a++) {
            for (int b = 1; b <= 4; b++) {
                x.row(-1);
                x.row(a);
                x.row(b);
                // Two rows in one, with a gap between.
                int hands = (1 << a) - 1 | (1 << b) - 1 << a + 1;
                boolean isWon = wins(hands, a + b + 1);
                Check.due("whether " + a + ", " + b + " is won", x.game(0) != -1, isWon);
                if (isWon) {
                    int from = x.game(1) + (x.game(0) == 0 ? 0 : a + 1);
                    int taken = (x.game(2) == 1 ? 1 : 3) << from;
                    Check.due("the hands are there", (hands & taken) == taken, true);
                    Check.due("and it wins", wins(hands ^ taken, a + b + 1), false);
                }
            }
        }
    }
}
