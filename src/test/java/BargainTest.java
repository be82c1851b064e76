/** Promises 6 to 9 and 19: bargains, clasps, hands, days and THE BOOK. */
public final class BargainTest {
    private static final int MIN = Integer.MIN_VALUE;
    private static final int MAX = Integer.MAX_VALUE;

    public static void main(String[] args) {
        cantBuy();
        buys();
        pursesFull();
        room();
        heldOn();
        draws();
        gloved();
        clasp();
        hand();
        days();
        dayOrder();
        lastDay();
        book();
        bookFull();
        Check.finish();
    }

    private static ClaspedFair market() {
        ClaspedFair x = new ClaspedFair();
        x.person(1000, 100);
        x.person(500, 300);
        x.person(9000, 900);
        x.horse(0, 400, 5);
        return x;
    }

    private static void dueBook(ClaspedFair x, int i, int day, int what, int who, int much) {
        Check.due("book(" + i + ", 0)", x.book(i, 0), day);
        Check.due("book(" + i + ", 1)", x.book(i, 1), what);
        Check.due("book(" + i + ", 2)", x.book(i, 2), who);
        Check.due("book(" + i + ", 3)", x.book(i, 3), much);
    }

    private static void duePerson(ClaspedFair x, int p, int trait, int purse, int shook) {
        for (int t = 0; t < 5; t++) {
            Check.due("trait " + t + " of " + p, x.of(p, t), trait);
        }
        Check.due("purse of " + p, x.of(p, 5), purse);
        Check.due("shook of " + p, x.of(p, 7), shook);
    }

    private static void cantBuy() {
        ClaspedFair x = market();
        int[][] wrong = {{0, 0, 400, 1}, {3, 0, 400, 1}, {-1, 0, 400, 1}, {1, 1, 400, 1}, {1, -1, 400, 1},
            {1, 0, -1, 9}, {1, 0, 389, 1}, {1, 0, 501, 1}, {2, 0, 10000, 1}, {1, 0, 400, 0}, {1, 0, 400, 10},
            {MAX, 0, 400, 1}, {1, MIN, 400, 1}, {1, 0, MIN, 1}, {1, 0, MAX, 1}, {1, 0, 400, MAX}};
        for (int[] w : wrong) {
            Check.due("buys", x.buys(w[0], w[1], w[2], w[3]), -1);
        }
        x.hand(1, 2);
        Check.due("a buyer in a sling", x.buys(1, 0, 400, 1), -1);
        Check.due("another one may", x.would(2, 0, 400, 1) != -1000, true);
        x.hand(1, 0);
        x.hand(0, 2);
        Check.due("an owner in a sling", x.buys(1, 0, 400, 1), -1);
        Check.due("nothing in the book", x.look(5), 0);
        Check.due("only hands to undo", x.look(11), 3);
        x.hand(0, 0);
        Check.due("what he asks", x.buys(1, 0, 390, 1) >= 0, true);
        x.undo();
        x.set(5, 1, 9999);
        Check.due("price 9999", x.buys(1, 0, 9999, 1) >= 0, true);
        Check.due("free horses are given", x.set(6, 0, 0) && x.buys(0, 0, 0, 1) >= 0, true);
    }

    private static void buys() {
        ClaspedFair x = market();
        // No draw below 90 comes from state 0: 563 is drawn.
        Check.due("buys", x.buys(1, 0, 400, 2), 5 * (4 + 12));
        duePerson(x, 0, 108, 1400, 1);
        duePerson(x, 1, 292, 100, 1);
        duePerson(x, 2, 900, 9000, 0);
        Check.due("owner", x.horseOf(0, 0), 1);
        Check.due("sold", x.horseOf(0, 3), 1);
        Check.due("passed", x.look(2), 80);
        Check.due("held", x.look(3), 0);
        Check.due("state", x.look(6), 1013904223);
        Check.due("to undo", x.look(11), 1);
        dueBook(x, 0, 0, 0, 1, 400);
        dueBook(x, 1, 0, 2, 0, 80);
        Check.due("lines", x.look(5), 2);
        // passes is asked with what is so when the horse is his: SHOOK and PURSE as they are then.
        Check.dueText(x, 0, "passes shook*100+purse/100;holds 0;asks 0;", 3);
        Check.due("buys", x.buys(2, 0, 1000, 1), 5 * (292 * 211 / 1000) + 5 * (900 * 180 / 1000));
    }

    private static void pursesFull() {
        ClaspedFair x = market();
        x.set(5, 0, 9900);
        Check.dueText(x, 0, "holds 0;passes 0;", 2);
        Check.due("buys", x.buys(1, 0, 450, 1), 0);
        Check.due("no more than 9999 comes", x.of(0, 5), 9999);
        Check.due("the price goes", x.of(1, 5), 50);
        x.undo();
        Check.dueText(x, 0, "holds 1000;passes 0;", 2);
        Check.due("buys", x.buys(1, 0, 450, 1), 0);
        Check.due("what came goes back", x.of(0, 5), 9900);
        Check.due("no more", x.of(1, 5), 500 - 450 + 99);
        Check.due("nothing passed: no line", x.look(5), 2);
        dueBook(x, 1, 0, 3, 1, 0);
    }

    private static void room() {
        ClaspedFair x = new ClaspedFair();
        x.person(0, 950);
        x.person(0, 900);
        Check.dueText(x, 0, "holds 0;passes 500 when own=950;passes 0;", 3);
        // 475 would go over, and there is room for 99.
        Check.due("clasp", x.clasp(0, 1, 1), 5 * 99);
        duePerson(x, 0, 851, 0, 1);
        duePerson(x, 1, 999, 0, 1);
        x.undo();
        Check.dueText(x, 0, "holds 0;passes 500 when own=950;passes 100;", 3);
        // He gives 90, so there is room for 189.
        Check.due("clasp", x.clasp(0, 1, 1), 5 * (189 + 90));
        duePerson(x, 0, 851, 0, 1);
        duePerson(x, 1, 999, 0, 1);
        x.undo();
        Check.due("the other way round", x.clasp(1, 0, 1), 5 * (189 + 90));
        duePerson(x, 0, 851, 0, 1);
        x.undo();
        Check.dueText(x, 0, "holds 0;passes 1000;", 2);
        Check.due("all of both", x.clasp(0, 1, 1), 5 * (950 + 900));
        duePerson(x, 0, 900, 0, 1);
        duePerson(x, 1, 950, 0, 1);
        x.undo();
        Check.dueText(x, 0, "holds 0;passes 1000 when trait=3 and own=900;passes 0;", 3);
        Check.due("one trait alone", x.clasp(0, 1, 1), 49);
        Check.due("trait 3", x.of(0, 3), 999);
        Check.due("trait 3", x.of(1, 3), 851);
        Check.due("trait 2", x.of(0, 2), 950);
        dueBook(x, 1, 0, 2, 0, 49);
    }

    private static void heldOn() {
        ClaspedFair x = market();
        // Only as it is after the traits have passed is own 292: then he holds on for sure.
        Check.dueText(x, 0, "holds 1000 when own=292 and other=108 and shook=1 and purse=100 and price=400 and worth=400"
                + " and spirit=5 and grip=2;holds 0;", 2);
        Check.due("buys", x.buys(1, 0, 400, 2), 0);
        duePerson(x, 0, 100, 1000, 1);
        duePerson(x, 1, 300, 500, 1);
        Check.due("the horse stays", x.horseOf(0, 0), 1);
        Check.due("sold", x.horseOf(0, 3), 1);
        Check.due("passed", x.look(2), 0);
        Check.due("held", x.look(3), 1);
        dueBook(x, 0, 0, 0, 1, 400);
        dueBook(x, 1, 0, 2, 0, 80);
        dueBook(x, 2, 0, 3, 1, 0);
        Check.due("lines", x.look(5), 3);
        // Of two the second one holds on.
        Check.dueText(x, 0, "holds 1000 when own<200;holds 0;", 2);
        Check.due("the second one is not asked so", x.clasp(0, 1, 1) > 0, true);
        Check.due("held", x.look(3), 1);
        Check.due("the second one holds", x.clasp(1, 0, 1), 0);
        Check.due("held", x.look(3), 2);
    }

    private static void draws() {
        ClaspedFair x = new ClaspedFair();
        x.person(0, 0);
        x.person(0, 0);
        int[] states = {0, 1, -1, 77777, MIN, MAX, 123456789, -987654321};
        int held = 0;
        for (int s : states) {
            int then = 1664525 * s + 1013904223;
            int draw = (then >>> 8) % 1000;
            Check.dueText(x, 0, "holds " + draw + ";", 1);
            x.state(s);
            x.clasp(0, 1, 1);
            Check.due("not below", x.look(3), held);
            Check.due("drawn once", x.look(6), draw == 0 ? s : then);
            Check.dueText(x, 0, "holds " + (draw + 1) + ";", 1);
            x.state(s);
            x.clasp(0, 1, 1);
            held++;
            Check.due("below", x.look(3), held);
            Check.due("drawn once", x.look(6), then);
        }
        Check.dueText(x, 0, "holds 0;", 1);
        x.state(5);
        x.clasp(0, 1, 1);
        Check.due("0 is not drawn for", x.look(6), 5);
        Check.dueText(x, 0, "holds 1000;", 1);
        x.clasp(0, 1, 1);
        Check.due("1000 is drawn for", x.look(6), 1664525 * 5 + 1013904223);
        Check.due("and held", x.look(3), held + 1);
    }

    private static void gloved() {
        for (int who = 0; who < 2; who++) {
            ClaspedFair x = market();
            Check.dueText(x, 0, "holds 1000;", 1);
            x.hand(who, 1);
            Check.due("buys", x.buys(1, 0, 400, 2), 0);
            duePerson(x, 0, 100, 1400, 1);
            duePerson(x, 1, 300, 100, 1);
            Check.due("owner", x.horseOf(0, 0), 1);
            Check.due("not drawn", x.look(6), 0);
            Check.due("not held", x.look(3), 0);
            Check.due("one line", x.look(5), 1);
            Check.due("clasp", x.clasp(0, 1, 9), 0);
            dueBook(x, 1, 0, 1, 0, 1);
            Check.due("shook", x.of(0, 7), 2);
        }
    }

    private static void clasp() {
        ClaspedFair x = market();
        int[][] wrong = {{0, 0, 1}, {0, 3, 1}, {3, 0, 1}, {-1, 0, 1}, {0, -1, 1}, {0, 1, 0}, {0, 1, 10}, {MIN, 0, 1},
            {0, MAX, 1}, {0, 1, MIN}, {0, 1, MAX}};
        for (int[] w : wrong) {
            Check.due("clasp", x.clasp(w[0], w[1], w[2]), -1);
        }
        Check.due("nothing to undo", x.look(11), 0);
        x.hand(0, 2);
        Check.due("a sling", x.clasp(0, 1, 1), -1);
        Check.due("a sling", x.clasp(1, 0, 1), -1);
        x.hand(0, 0);
        Check.dueText(x, 0, "passes 100+price+worth+spirit;holds 0;", 2);
        Check.due("clasp", x.clasp(1, 0, 5), 5 * 40);
        duePerson(x, 0, 120, 1000, 1);
        duePerson(x, 1, 280, 500, 1);
        dueBook(x, 0, 0, 1, 1, 0);
        dueBook(x, 1, 0, 2, 1, 200);
        Check.due("passed", x.look(2), 200);
        Check.due("the horse stays", x.horseOf(0, 0), 0);
        Check.due("not sold", x.horseOf(0, 3), 0);
        Check.dueText(x, 0, "passes 0;holds 0;", 2);
        Check.due("nothing passes", x.clasp(1, 0, 5), 0);
        Check.due("and no line of it", x.look(5), 3);
    }

    private static void hand() {
        ClaspedFair x = market();
        int[][] wrong = {{0, 0}, {0, -1}, {0, 3}, {3, 1}, {-1, 1}, {MAX, 1}, {MIN, 1}, {0, MAX}, {0, MIN}};
        for (int[] w : wrong) {
            Check.due("hand", x.hand(w[0], w[1]), false);
        }
        Check.due("nothing to undo", x.look(11), 0);
        for (int v : new int[] {1, 2, 0, 2, 1, 0}) {
            Check.due("hand", x.hand(0, v), true);
            Check.due("it is so", x.hand(0, v), false);
            Check.due("HAND", x.of(0, 6), v);
            Check.due("HAND of another", x.of(1, 6), 0);
        }
        Check.due("to undo", x.look(11), 6);
        Check.due("no line", x.look(5), 0);
    }

    private static void days() {
        ClaspedFair x = market();
        for (int n : new int[] {0, -1, 61, MAX, MIN}) {
            Check.due("days(" + n + ")", x.days(n), -1);
        }
        Check.due("DAY", x.look(4), 0);
        Check.dueText(x, 0, "holds 1000 when day=1;holds 0;asks 0;", 3);
        Check.dueText(x, 1, "on 1 person 2 horse 0 at 20 grip 1;on 0 person 1 horse 0 at 10 grip 1;"
                + "on 2 person 2 horse 0 at 1 grip 9;on 2 person 0 horse 0 at 9999 grip 9;"
                + "on 59 person 1 horse 0 at 0 grip 1;", 5);
        Check.due("days(1)", x.days(1), 1);
        Check.due("DAY", x.look(4), 1);
        Check.due("owner", x.horseOf(0, 0), 1);
        Check.due("purse", x.of(1, 5), 490);
        Check.due("days(1)", x.days(1), 1);
        Check.due("held on and counted", x.look(3), 1);
        Check.due("owner", x.horseOf(0, 0), 2);
        // On day 2 he has it already, and the other one has not so much.
        Check.due("days(1)", x.days(1), 0);
        Check.due("days(56)", x.days(56), 0);
        Check.due("DAY", x.look(4), 59);
        Check.due("days(60)", x.days(60), 1);
        Check.due("DAY", x.look(4), 119);
        Check.due("sold", x.horseOf(0, 3), 3);
        Check.due("the day of the last sale", x.book(x.look(5) - 2, 0), 59);
        Check.due("no more than six", x.look(11), 6);
    }

    private static void dayOrder() {
        ClaspedFair x = market();
        Check.dueText(x, 0, "holds 0;passes 0;asks 0;", 3);
        // Habits come before the fair, line by line, the later over the earlier.
        Check.dueText(x, 2, "on 0 sling 1;on 0 bare 1;on 0 glove 0;on 0 pay 1 999;on 0 pay 2 999;on 0 pay 2 999;"
                + "on 0 cold 0 1 99;on 0 cold 0 1 99;on 0 cold 2 4 7;on 1 sling 2;on 1 bare 0;", 11);
        Check.dueText(x, 1, "on 0 person 1 horse 0 at 1400 grip 1;on 0 person 2 horse 0 at 5 grip 1;"
                + "on 1 person 0 horse 0 at 5 grip 1;", 3);
        Check.due("days(1)", x.days(1), 2);
        Check.due("hands", x.of(0, 6), 1);
        Check.due("hands", x.of(1, 6), 0);
        Check.due("purse", x.of(1, 5), 500 + 999 - 1400 + 5);
        Check.due("no more than 9999 is paid", x.of(2, 5), 9999 - 5);
        Check.due("purse", x.of(0, 5), 2400);
        Check.due("not below 0", x.of(0, 1), 0);
        Check.due("other traits", x.of(0, 0), 100);
        Check.due("cold", x.of(2, 4), 893);
        Check.due("owner", x.horseOf(0, 0), 2);
        Check.due("days(1)", x.days(1), 0);
        Check.due("hands", x.of(2, 6), 2);
        Check.due("hands", x.of(0, 6), 0);
        Check.due("hands are no lines", x.look(5), 2);
    }

    private static void lastDay() {
        ClaspedFair x = market();
        Check.dueText(x, 1, "on 999 person 1 horse 0 at 400 grip 1;", 1);
        int bargains = 0;
        for (int i = 0; i < 166; i++) {
            bargains += x.days(60);
        }
        Check.due("bargains", bargains, 1);
        Check.due("DAY", x.look(4), 9960);
        Check.due("days(40)", x.days(40), -1);
        Check.due("nothing is done", x.look(4), 9960);
        Check.due("days(39)", x.days(39), 0);
        Check.due("DAY", x.look(4), 9999);
        Check.due("days(1)", x.days(1), -1);
        Check.due("goes(60)", x.goes(60, 3), 1);
        Check.due("undo", x.undo(), true);
        Check.due("days(1)", x.days(1), 0);
    }

    private static void book() {
        ClaspedFair x = market();
        x.days(5);
        Check.dueText(x, 0, "holds 0;passes 10;", 2);
        x.clasp(2, 1, 1);
        dueBook(x, 0, 5, 1, 2, 1);
        dueBook(x, 1, 5, 2, 2, 5 * (9 + 3));
        for (int w : new int[] {-1, 4, MAX, MIN}) {
            Check.due("book(0, " + w + ")", x.book(0, w), -1);
        }
        for (int i : new int[] {-1, 2, 150, MAX, MIN}) {
            Check.due("book(" + i + ", 0)", x.book(i, 0), -1);
        }
    }

    private static void bookFull() {
        ClaspedFair x = market();
        Check.dueText(x, 0, "holds 1000;", 1);
        for (int i = 0; i < 50; i++) {
            Check.due("lines", x.look(5), 3 * i);
            Check.due("clasp", x.clasp(0, 1, 9), 0);
        }
        Check.due("lines", x.look(5), 150);
        dueBook(x, 149, 0, 3, 1, 0);
        Check.due("clasp", x.clasp(1, 2, 9), 0);
        Check.due("no more", x.look(5), 150);
        dueBook(x, 149, 0, 3, 1, 0);
        Check.due("book(150, 0)", x.book(150, 0), -1);
        Check.due("but it was", x.look(3), 51);
        x.undo();
        x.undo();
        Check.due("lines", x.look(5), 147);
        Check.due("book(147, 0)", x.book(147, 0), -1);
        Check.due("book(146, 1)", x.book(146, 1), 3);
        x.hand(0, 1);
        x.clasp(0, 2, 1);
        x.clasp(0, 2, 1);
        x.hand(0, 0);
        x.clasp(0, 1, 1);
        Check.due("the last line has room, the others not", x.look(5), 150);
        dueBook(x, 149, 0, 1, 0, 1);
    }
}
