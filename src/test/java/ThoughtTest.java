/** Promises 20 and 21: how days go and what a clasp would do, in thought. */
public final class ThoughtTest {
    private static final int MIN = Integer.MIN_VALUE;
    private static final int MAX = Integer.MAX_VALUE;

    public static void main(String[] args) {
        goes();
        goesOverDays();
        would();
        Check.finish();
    }

    private static ClaspedFair market() {
        ClaspedFair x = new ClaspedFair();
        x.person(1000, 100);
        x.person(500, 300);
        x.horse(0, 400, 5);
        x.horse(1, 10, 0);
        return x;
    }

    /** Nothing of a thought stays. */
    private static void dueUntouched(ClaspedFair x, int undoable) {
        int[] due = {2, 2, 0, 0, 0, 0, 0};
        for (int what = 0; what < due.length; what++) {
            Check.due("look(" + what + ") after a thought", x.look(what), due[what]);
        }
        Check.due("look(11) after a thought", x.look(11), undoable);
        Check.due("trait", x.of(0, 0), 100);
        Check.due("trait", x.of(1, 0), 300);
        Check.due("purse", x.of(0, 5), 1000);
        Check.due("purse", x.of(1, 5), 500);
        Check.due("hand", x.of(0, 6), 0);
        Check.due("shook", x.of(0, 7), 0);
        Check.due("owner", x.horseOf(0, 0), 0);
        Check.due("sold", x.horseOf(0, 3), 0);
    }

    private static void goes() {
        ClaspedFair x = market();
        Check.dueText(x, 1, "on 0 person 1 horse 0 at 400 grip 2;on 3 person 0 horse 0 at 700 grip 1;", 2);
        Check.dueText(x, 2, "on 2 pay 0 20;on 2 glove 0;", 2);
        x.hand(0, 1);
        x.hand(0, 0);
        for (int n : new int[] {0, -1, 61, MAX, MIN}) {
            Check.due("goes(" + n + ", 0)", x.goes(n, 0), -1);
        }
        for (int what : new int[] {-1, 4, MAX, MIN}) {
            Check.due("goes(1, " + what + ")", x.goes(1, what), -1);
        }
        int[][] due = {{80, 0, 1500, 1}, {80, 0, 1500, 1}, {80, 0, 1520, 1}, {80, 0, 1520, 2}};
        for (int n = 1; n <= 4; n++) {
            for (int what = 0; what < 4; what++) {
                Check.due("goes(" + n + ", " + what + ")", x.goes(n, what), due[n - 1][what]);
            }
        }
        Check.due("goes(60, 3)", x.goes(60, 3), 2);
        dueUntouched(x, 2);
        // 499 does not hold on in thought, 500 does.
        Check.dueText(x, 0, "holds 499;", 1);
        Check.due("goes(1, 1)", x.goes(1, 1), 0);
        Check.due("goes(1, 0)", x.goes(1, 0), 80);
        Check.dueText(x, 0, "holds 500;", 1);
        Check.due("goes(1, 1)", x.goes(1, 1), 1);
        Check.due("goes(1, 0)", x.goes(1, 0), 0);
        Check.due("goes(1, 3)", x.goes(1, 3), 1);
        dueUntouched(x, 2);
    }

    private static void goesOverDays() {
        ClaspedFair x = market();
        Check.dueText(x, 0, "holds 0;passes 10;asks 0;", 3);
        Check.dueText(x, 1, "on 7 person 1 horse 0 at 9 grip 1;on 8 person 0 horse 0 at 9 grip 1;", 2);
        x.days(5);
        x.clasp(0, 1, 1);
        int passed = x.look(2);
        Check.due("what had passed before", passed, 5 * (1 + 3));
        Check.due("goes(2, 0)", x.goes(2, 0), passed);
        Check.due("goes(3, 3)", x.goes(3, 3), 1);
        Check.due("goes(3, 0)", x.goes(3, 0), passed + 5 * (1 + 2));
        Check.due("goes(4, 3)", x.goes(4, 3), 2);
        Check.due("DAY", x.look(4), 5);
        Check.due("lines", x.look(5), 2);
        x.days(3);
        Check.due("as it went in thought", x.look(2), passed + 5 * (1 + 2));
    }

    private static void would() {
        ClaspedFair x = market();
        int[][] wrong = {{0, 0, 400, 1}, {2, 0, 400, 1}, {-1, 0, 400, 1}, {1, 2, 400, 1}, {1, -1, 400, 1}, {1, 0, 389, 1},
            {1, 0, 501, 1}, {1, 0, 400, 0}, {1, 0, 400, 10}, {1, 0, -1, 9}, {MAX, MIN, MAX, MIN}};
        for (int[] w : wrong) {
            Check.due("would", x.would(w[0], w[1], w[2], w[3]), -1000);
        }
        Check.due("would", x.would(1, 0, 400, 2), 4 - 12);
        Check.due("would", x.would(0, 1, 10, 2), 12 - 4);
        dueUntouched(x, 0);
        Check.dueText(x, 0, "holds 499;", 1);
        Check.due("would", x.would(1, 0, 400, 2), 4 - 12);
        Check.dueText(x, 0, "holds 500;", 1);
        Check.due("he would hold on", x.would(1, 0, 400, 2), 0);
        // After the clasp both shook once more.
        Check.dueText(x, 0, "holds 500*shook;", 1);
        Check.due("he would hold on", x.would(1, 0, 400, 2), 0);
        Check.dueText(x, 0, "holds 0;passes 1000 when own=300;passes 0;", 3);
        Check.due("all of his", x.would(1, 0, 400, 2), -300);
        Check.dueText(x, 0, "holds 0;passes 1000 when trait=1;passes 0;", 3);
        Check.due("another trait", x.would(1, 0, 400, 2), 0);
        x.hand(1, 1);
        Check.due("gloved", x.would(0, 1, 10, 2), 0);
        x.hand(1, 2);
        Check.due("in a sling", x.would(0, 1, 10, 2), -1000);
        x.undo();
        x.undo();
        dueUntouched(x, 0);
    }
}
