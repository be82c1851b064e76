/** Promises 40 to 42: UNDO, THE IMAGE, and looking. */
public final class UndoTest {
    private static final int MIN = Integer.MIN_VALUE;
    private static final int MAX = Integer.MAX_VALUE;

    public static void main(String[] args) {
        undo();
        sixAreKept();
        whatForgets();
        whatStays();
        image();
        imageOfTexts();
        look();
        Check.finish();
    }

    private static ClaspedFair market() {
        ClaspedFair x = new ClaspedFair();
        x.person(1000, 100);
        x.person(500, 300);
        x.person(700, 700);
        x.horse(0, 400, 5);
        Check.dueText(x, 0, "holds 500;passes 100;asks 0;", 3);
        Check.dueText(x, 1, "on 0 person 1 horse 0 at 30 grip 1;on 1 person 2 horse 0 at 30 grip 1;", 2);
        Check.dueText(x, 2, "on 0 glove 2;on 1 bare 2;on 1 pay 1 5;", 3);
        return x;
    }

    /** All that can be looked at, but for what can be undone. */
    static String all(ClaspedFair x) {
        StringBuilder s = new StringBuilder();
        for (int what = 0; what < 11; what++) {
            s.append(x.look(what)).append(' ');
        }
        for (int p = 0; p < 12; p++) {
            for (int what = 0; what < 9; what++) {
                s.append(x.of(p, what)).append(' ');
            }
        }
        for (int h = 0; h < 10; h++) {
            for (int what = 0; what < 4; what++) {
                s.append(x.horseOf(h, what)).append(' ');
            }
        }
        for (int i = 0; i < 150; i++) {
            for (int what = 0; what < 4; what++) {
                s.append(x.book(i, what)).append(' ');
            }
        }
        return s.toString();
    }

    private static void dueSame(String what, ClaspedFair x, String was) {
        Check.due(what, all(x).equals(was), true);
    }

    private static void undo() {
        ClaspedFair x = market();
        String s0 = all(x);
        Check.due("nothing to undo", x.undo(), false);
        Check.due("a day", x.days(1), 1);
        String s1 = all(x);
        x.hand(1, 1);
        String s2 = all(x);
        x.hand(1, 0);
        String s3 = all(x);
        x.clasp(2, 0, 3);
        String s4 = all(x);
        x.buys(0, 0, 77, 2);
        String s5 = all(x);
        x.days(1);
        Check.due("to undo", x.look(11), 6);
        String[] back = {s5, s4, s3, s2, s1, s0};
        for (int i = 0; i < 6; i++) {
            Check.due("undo", x.undo(), true);
            dueSame("as before, " + i, x, back[i]);
            Check.due("to undo", x.look(11), 5 - i);
        }
        Check.due("nothing to undo", x.undo(), false);
        dueSame("as before", x, s0);
        // The same goes on from there as at first.
        x.days(1);
        dueSame("the same day", x, s1);
        Check.due("undo", x.undo(), true);
        dueSame("as before", x, s0);
    }

    private static void sixAreKept() {
        ClaspedFair x = market();
        String[] was = new String[10];
        for (int i = 0; i < 10; i++) {
            was[i] = all(x);
            x.clasp(i % 2, 2, 1 + i % 9);
            Check.due("to undo", x.look(11), Math.min(6, i + 1));
        }
        for (int i = 9; i >= 4; i--) {
            Check.due("undo", x.undo(), true);
            dueSame("as before " + i, x, was[i]);
        }
        Check.due("no more", x.undo(), false);
        x.days(9);
        Check.due("days count each", x.look(11), 6);
        for (int i = 8; i >= 3; i--) {
            x.undo();
            Check.due("DAY", x.look(4), i);
        }
        Check.due("no more", x.undo(), false);
        x.hand(0, 1);
        x.undo();
        x.hand(0, 2);
        x.undo();
        Check.due("not twice", x.undo(), false);
        Check.due("HAND", x.of(0, 6), 0);
    }

    private static void whatForgets() {
        for (int i = 0; i < 14; i++) {
            ClaspedFair x = market();
            x.image(true);
            x.days(1);
            x.clasp(0, 1, 1);
            switch (i) {
                case 0: x.state(1); break;
                case 1: x.person(1, 1); break;
                case 2: x.horse(0, 1, 1); break;
                case 3: x.set(0, 0, 1); break;
                case 4: x.set(5, 0, 1); break;
                case 5: x.set(6, 0, 1); break;
                case 6: x.set(7, 0, 1); break;
                case 7: Check.dueText(x, 1, "", 0); break;
                case 8: Check.dueText(x, 2, "on 5 bare 0;", 1); break;
                default: x.image(false); break;
            }
            Check.due("forgotten by " + i, x.look(11), 0);
            Check.due("undo after " + i, x.undo(), false);
        }
    }

    private static void whatStays() {
        ClaspedFair x = market();
        String s0 = all(x);
        x.days(1);
        Check.dueText(x, 0, "passes 0;", 1);
        Check.dueText(x, 3, "person 0 kin 2;", 1);
        x.told(0, 1);
        x.number(1);
        x.weight(1);
        x.herd(1);
        x.row(1);
        x.told(-1, 0);
        x.number(-1);
        x.weight(-1);
        x.herd(-1);
        x.row(-1);
        x.image(true);
        x.person(-1, 0);
        x.horse(9, 0, 0);
        x.set(9, 0, 0);
        x.set(0, 0, -1);
        x.buys(0, 9, 9, 9);
        x.clasp(0, 0, 0);
        x.hand(0, 0);
        x.days(0);
        Check.dueFault(x, 1, "on", 1, 2);
        Check.dueFault(x, 2, "on", 1, 2);
        x.text(9);
        x.goes(60, 0);
        x.would(0, 0, 5, 1);
        Check.due("nothing is forgotten", x.look(11), 1);
        Check.due("undo", x.undo(), true);
        Check.due("THE LAW stays told", x.look(7), 1);
        Check.due("KIN stays told", x.of(0, 8), 4);
        Check.dueText(x, 0, "holds 500;passes 100;asks 0;", 3);
        Check.dueText(x, 3, "", 0);
        dueSame("as before", x, s0);
    }

    private static void image() {
        ClaspedFair x = market();
        Check.due("no image", x.image(false), false);
        x.clasp(0, 1, 1);
        Check.due("no image forgets nothing", x.look(11), 1);
        x.told(0, 1);
        x.number(1);
        x.number(1);
        x.weight(7);
        x.herd(9);
        x.row(3);
        String s0 = all(x);
        Check.due("taken", x.image(true), true);
        Check.due("that forgets nothing", x.look(11), 1);
        for (int again = 0; again < 2; again++) {
            x.days(3);
            x.person(1, 2);
            x.horse(1, 2, 3);
            x.set(0, 0, 555);
            x.state(99);
            x.told(0, 2);
            x.number(1);
            x.weight(1);
            x.herd(5);
            x.row(-1);
            x.days(2);
            Check.due("gone back", x.image(false), true);
            dueSame("as it was", x, s0);
            Check.due("nothing to undo", x.look(11), 0);
            Check.due("CAME", x.came(-1, 0), 3);
            Check.due("COULD", x.could(), 1);
            Check.due("SCALE", x.balance(7, 0), 1);
            Check.due("SCALE", x.balance(1, 0), 0);
            Check.due("PENS", x.pens(1, 0), 9);
            Check.due("GAME", x.game(1), 1);
        }
        x.undo();
        dueSame("undone is nothing", x, s0);
        x.hand(0, 1);
        Check.due("taken anew", x.image(true), true);
        x.hand(0, 2);
        Check.due("gone back", x.image(false), true);
        Check.due("HAND", x.of(0, 6), 1);
    }

    private static void imageOfTexts() {
        ClaspedFair x = market();
        Check.dueText(x, 3, "person 0 kin 1;", 1);
        int passes = x.passes(0, 1, 1, 0);
        x.image(true);
        Check.dueText(x, 0, "passes 5*grip when 1=1 and not (1=2);", 1);
        Check.dueText(x, 1, "", 0);
        Check.dueText(x, 2, "", 0);
        Check.dueText(x, 3, "", 0);
        Check.dueFault(x, 0, "holds", 1, 5);
        Check.due("feed", x.feed(0x20202020, 0x20202020, 0x20202020, 0x20202020, 0x20202020), 20);
        x.image(false);
        Check.due("fault() is as it is", x.fault(0), 1);
        Check.due("its place", x.fault(1), 5);
        Check.due("the TAPE is as it is", x.end(20), true);
        Check.due("THE LAW", x.passes(0, 1, 1, 0), passes);
        Check.due("THE LAW's lines", x.look(7), 3);
        Check.due("KIN", x.of(0, 8), 2);
        Check.due("FAIR", x.look(8), 2);
        Check.due("HABITS", x.look(9), 3);
        Check.due("the fair goes on", x.days(2), 2);
        Check.due("and the habits", x.of(1, 5) >= 5, true);
    }

    private static void look() {
        ClaspedFair x = market();
        Check.dueText(x, 3, "person 0 kin 1;person 1 kin 0;", 2);
        x.state(0);
        x.hand(0, 1);
        x.days(1);
        x.hand(0, 0);
        x.hand(1, 1);
        x.hand(1, 0);
        int[] due = {3, 1, 0, 0, 1, 1, 0, 3, 2, 3, 2, 5};
        for (int what = 0; what < 12; what++) {
            Check.due("look(" + what + ")", x.look(what), due[what]);
        }
        // 563 is drawn: not below 500.
        x.clasp(0, 1, 1);
        Check.due("passed", x.look(2), 5 * (10 + 30));
        Check.due("held", x.look(3), 0);
        Check.due("state", x.look(6), 1013904223);
        // 577 is drawn: 1196435762 has 4673577 as its highest 24 bits.
        x.clasp(0, 1, 1);
        Check.due("state", x.look(6), 1196435762);
        Check.due("held", x.look(3), 0);
        for (int what : new int[] {-1, 12, MAX, MIN}) {
            Check.due("look(" + what + ")", x.look(what), -1);
        }
    }
}
