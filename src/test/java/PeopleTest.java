/** Promises 1 to 5, 14, 15: a new object, STATE, PEOPLE and HORSES. */
public final class PeopleTest {
    private static final int MIN = Integer.MIN_VALUE;
    private static final int MAX = Integer.MAX_VALUE;

    public static void main(String[] args) {
        newObject();
        state();
        person();
        horse();
        set();
        of();
        horseOf();
        Check.finish();
    }

    private static void newObject() {
        ClaspedFair x = new ClaspedFair();
        for (int what = 0; what < 12; what++) {
            Check.due("look(" + what + ") at first", x.look(what), 0);
        }
        Check.due("of(0, 0) at first", x.of(0, 0), -1);
        Check.due("horseOf(0, 0) at first", x.horseOf(0, 0), -1);
        Check.due("book(0, 0) at first", x.book(0, 0), -1);
        Check.due("fault(0) at first", x.fault(0), 0);
        Check.due("fault(1) at first", x.fault(1), -1);
        Check.due("undo() at first", x.undo(), false);
        Check.due("image(false) at first", x.image(false), false);
        Check.due("end(0) at first", x.end(0), true);
        Check.due("end(1) at first", x.end(1), false);
        ClaspedFair other = new ClaspedFair();
        Check.due("a person here", x.person(1, 1), 0);
        Check.due("is not there", other.look(0), 0);
    }

    private static void state() {
        ClaspedFair x = new ClaspedFair();
        Check.due("state(5)", x.state(5), 0);
        Check.due("state(MIN)", x.state(MIN), 5);
        Check.due("look(6)", x.look(6), MIN);
        Check.due("state(-1)", x.state(-1), MIN);
        Check.due("state(7)", x.state(7), -1);
        x.days(1);
        Check.due("look(11)", x.look(11), 1);
        x.state(7);
        Check.due("state forgets what can be undone", x.look(11), 0);
    }

    private static void person() {
        ClaspedFair x = new ClaspedFair();
        int[][] wrong = {{-1, 0}, {10000, 0}, {0, -1}, {0, 1000}, {MIN, 5}, {5, MAX}};
        x.days(1);
        for (int[] w : wrong) {
            Check.due("person that can't be", x.person(w[0], w[1]), -1);
        }
        Check.due("none came", x.look(0), 0);
        Check.due("none of them forgot", x.look(11), 1);
        Check.due("person(9999, 999)", x.person(9999, 999), 0);
        Check.due("person forgets what can be undone", x.look(11), 0);
        Check.due("person(0, 0)", x.person(0, 0), 1);
        for (int t = 0; t < 5; t++) {
            Check.due("trait of 0", x.of(0, t), 999);
            Check.due("trait of 1", x.of(1, t), 0);
        }
        Check.due("purse of 0", x.of(0, 5), 9999);
        Check.due("purse of 1", x.of(1, 5), 0);
        Check.due("hand at first", x.of(0, 6), 0);
        Check.due("shook at first", x.of(0, 7), 0);
        Check.due("kin at first", x.of(0, 8), 0);
        for (int p = 2; p < 12; p++) {
            Check.due("person " + p, x.person(p, p), p);
        }
        Check.due("the thirteenth", x.person(1, 1), -1);
        Check.due("twelve", x.look(0), 12);
        Check.due("the last one's purse", x.of(11, 5), 11);
    }

    private static void horse() {
        ClaspedFair x = new ClaspedFair();
        x.person(1, 1);
        x.person(1, 1);
        x.days(1);
        int[][] wrong = {{-1, 0, 0}, {2, 0, 0}, {0, -1, 0}, {0, 1000, 0}, {0, 0, -1}, {0, 0, 10}, {MAX, 1, 1}, {MIN, 1, 1}};
        for (int[] w : wrong) {
            Check.due("horse that can't be", x.horse(w[0], w[1], w[2]), -1);
        }
        Check.due("no horse", x.look(1), 0);
        Check.due("nothing forgotten", x.look(11), 1);
        Check.due("horse(1, 999, 9)", x.horse(1, 999, 9), 0);
        Check.due("horse forgets what can be undone", x.look(11), 0);
        Check.due("owner", x.horseOf(0, 0), 1);
        Check.due("worth", x.horseOf(0, 1), 999);
        Check.due("horse(0, 0, 0)", x.horse(0, 0, 0), 1);
        Check.due("spirit", x.horseOf(0, 2), 9);
        Check.due("sold", x.horseOf(0, 3), 0);
        for (int h = 2; h < 10; h++) {
            Check.due("horse " + h, x.horse(0, h, 0), h);
        }
        Check.due("the eleventh", x.horse(0, 1, 1), -1);
        Check.due("ten", x.look(1), 10);
    }

    private static void set() {
        ClaspedFair x = new ClaspedFair();
        x.person(10, 20);
        x.person(30, 40);
        x.horse(0, 50, 6);
        x.horse(1, 70, 8);
        x.days(1);
        int[][] wrong = {{-1, 0, 0}, {8, 0, 0}, {MIN, 0, 0}, {MAX, 0, 0}, {0, 2, 0}, {0, -1, 0}, {5, 2, 0}, {6, 2, 0},
            {6, -1, 0}, {7, 2, 0}, {0, 0, -1}, {4, 0, 1000}, {5, 0, 10000}, {5, 0, -1}, {6, 0, 1000}, {6, 0, -1},
            {7, 0, 10}, {7, 0, -1}, {0, MAX, 0}, {6, MIN, 0}};
        for (int[] w : wrong) {
            Check.due("set of " + w[0] + " " + w[1] + " " + w[2], x.set(w[0], w[1], w[2]), false);
        }
        Check.due("nothing forgotten", x.look(11), 1);
        for (int what = 0; what < 5; what++) {
            Check.due("set trait", x.set(what, 1, 999 - what), true);
        }
        Check.due("set forgets what can be undone", x.look(11), 0);
        for (int what = 0; what < 5; what++) {
            Check.due("trait that was set", x.of(1, what), 999 - what);
            Check.due("trait that was not", x.of(0, what), 20);
        }
        Check.due("set purse", x.set(5, 1, 9999), true);
        Check.due("purse that was set", x.of(1, 5), 9999);
        Check.due("purse that was not", x.of(0, 5), 10);
        Check.due("set worth", x.set(6, 1, 999), true);
        Check.due("set spirit", x.set(7, 1, 9), true);
        Check.due("worth", x.horseOf(1, 1), 999);
        Check.due("spirit", x.horseOf(1, 2), 9);
        Check.due("worth of the other", x.horseOf(0, 1), 50);
        Check.due("spirit of the other", x.horseOf(0, 2), 6);
        Check.due("set to 0", x.set(7, 1, 0), true);
        Check.due("spirit 0", x.horseOf(1, 2), 0);
        Check.due("set to 0", x.set(4, 1, 0) && x.set(5, 1, 0) && x.set(6, 1, 0), true);
        Check.due("trait 0", x.of(1, 4), 0);
        Check.due("purse 0", x.of(1, 5), 0);
        Check.due("worth 0", x.horseOf(1, 1), 0);
        x.days(1);
        Check.due("set to what it is", x.set(5, 0, 10), true);
        Check.due("is told all the same", x.look(11), 0);
    }

    private static void of() {
        ClaspedFair x = new ClaspedFair();
        for (int p = 0; p < 12; p++) {
            x.person(100 + p, 10 * p);
        }
        Check.dueText(x, 3, "person 0 kin 11;person 3 kin 0;person 0 kin 3;person 5 kin 11;", 4);
        x.hand(3, 2);
        x.clasp(0, 1, 1);
        Check.due("trait", x.of(11, 4), 110);
        Check.due("purse", x.of(11, 5), 111);
        Check.due("hand", x.of(3, 6), 2);
        Check.due("shook", x.of(1, 7), 1);
        Check.due("shook not", x.of(2, 7), 0);
        Check.due("kin of 0", x.of(0, 8), 1 << 11 | 1 << 3);
        Check.due("kin of 3", x.of(3, 8), 1);
        Check.due("kin of 11", x.of(11, 8), 1 | 1 << 5);
        Check.due("kin of 1", x.of(1, 8), 0);
        int[] wrong = {-1, 9, 10, MAX, MIN};
        for (int w : wrong) {
            Check.due("of(0, " + w + ")", x.of(0, w), -1);
        }
        Check.due("of(12, 0)", x.of(12, 0), -1);
        Check.due("of(-1, 0)", x.of(-1, 0), -1);
        Check.due("of(MAX, 5)", x.of(MAX, 5), -1);
        Check.due("of(MIN, 5)", x.of(MIN, 5), -1);
    }

    private static void horseOf() {
        ClaspedFair x = new ClaspedFair();
        x.person(1000, 0);
        x.person(1000, 0);
        x.horse(0, 3, 4);
        Check.due("sold", x.buys(1, 0, 100, 1), 0);
        Check.due("owner then", x.horseOf(0, 0), 1);
        Check.due("worth then", x.horseOf(0, 1), 3);
        Check.due("spirit then", x.horseOf(0, 2), 4);
        Check.due("sold then", x.horseOf(0, 3), 1);
        int[] wrong = {-1, 4, MAX, MIN};
        for (int w : wrong) {
            Check.due("horseOf(0, " + w + ")", x.horseOf(0, w), -1);
            Check.due("horseOf(" + w + ", 0)", x.horseOf(w, 0), -1);
        }
        Check.due("horseOf(1, 0)", x.horseOf(1, 0), -1);
    }
}
