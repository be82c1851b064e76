import java.util.function.IntUnaryOperator;

/** What the document says under promises 1 to 42: of each call what it answers at its bounds and what it refuses. */
final class SentencesOfCalls {
    private static final int MIN = Integer.MIN_VALUE;
    private static final int MAX = Integer.MAX_VALUE;

    private SentencesOfCalls() {
    }

    static void all() {
        newObject();
        people();
        set();
        bargains();
        hand();
        days();
        tape();
        text();
        asked();
        law();
        book();
        thought();
        told();
        could();
        pairs();
        scale();
        peopleInThought();
        pens();
        game();
        undo();
        look();
    }

    /** Two PEOPLE and a HORSE of the first one; something of all kinds has been told, and one clasp can be undone. */
    private static ClaspedFair market() {
        ClaspedFair x = new ClaspedFair();
        x.person(1000, 100);
        x.person(500, 300);
        x.horse(0, 400, 5);
        x.told(0, 1);
        x.number(2);
        x.weight(2);
        x.herd(2);
        x.row(2);
        x.clasp(0, 1, 1);
        return x;
    }

    private static int of(boolean answer) {
        return answer ? 1 : 0;
    }

    /** Each of these is refused with NONE and changes nothing. */
    private static void dueNone(String call, ClaspedFair x, IntUnaryOperator ask, int... wrong) {
        String was = Check.seen(x);
        for (int w : wrong) {
            Check.due(call + " with " + w, ask.applyAsInt(w), -1);
        }
        Check.due(call + " changes nothing", Check.seen(x).equals(was), true);
    }

    private static void newObject() {
        Sentence.holds("Promise 1", "An empty market.", () -> {
            ClaspedFair x = new ClaspedFair();
            for (int what = 0; what <= 11; what++) {
                Check.due("look(" + what + ")", x.look(what), 0);
            }
            Check.due("no person", x.of(0, 0), -1);
            Check.due("no horse", x.horseOf(0, 0), -1);
            Check.due("no line", x.book(0, 0), -1);
            Check.due("no fault", x.fault(0), 0);
            Check.due("no place", x.fault(1), -1);
            Check.due("none told", x.came(-1, -1), 0);
            Check.due("none told", x.could(), 1);
            Check.due("none told", x.balance(0, 2), 0);
            Check.due("none told", x.pens(4, 0), 0);
            Check.due("none told", x.game(0), -1);
            Check.due("nothing to undo", x.undo(), false);
            Check.due("no image", x.image(false), false);
            Check.due("an empty tape", x.end(1), false);
            new ClaspedFair().person(1, 1);
            Check.due("another object's", x.look(0), 0);
        });
        Sentence.holds("Promise 2", "STATE is told: what it was.", () -> {
            ClaspedFair x = new ClaspedFair();
            Check.due("0 at first", x.state(MIN), 0);
            Check.due("MIN", x.state(MAX), MIN);
            Check.due("MAX", x.state(-1), MAX);
            Check.due("-1", x.state(0), -1);
            Check.due("0", x.look(6), 0);
        });
    }

    private static void people() {
        Sentence.holds("Promise 3", "A PERSON, with PURSE and all TRAITS alike: the number", () -> {
            ClaspedFair x = new ClaspedFair();
            Check.due("the first", x.person(9999, 999), 0);
            Check.due("the second", x.person(0, 0), 1);
            for (int t = 0; t <= 4; t++) {
                Check.due("of the first", x.of(0, t), 999);
                Check.due("of the second", x.of(1, t), 0);
            }
            Check.due("of the first", x.of(0, 5), 9999);
            Check.due("of the second", x.of(1, 5), 0);
        });
        Sentence.holds("Promise 3", "NONE if one can't be, or there are twelve.", () -> {
            ClaspedFair x = market();
            dueNone("purse", x, v -> x.person(v, 0), -1, 10000, MIN, MAX);
            dueNone("traits", x, v -> x.person(0, v), -1, 1000, MIN, MAX);
            for (int p = 2; p <= 11; p++) {
                Check.due("person " + p, x.person(p, p), p);
            }
            dueNone("the thirteenth", x, v -> x.person(v, v), 0, 1, 999);
            Check.due("twelve", x.look(0), 12);
        });
        Sentence.holds("Promise 4", "A HORSE: the number; NONE if one can't be, or there are ten.", () -> {
            ClaspedFair x = market();
            dueNone("owner", x, v -> x.horse(v, 0, 0), -1, 2, 11, 12, MIN, MAX);
            dueNone("worth", x, v -> x.horse(0, v, 0), -1, 1000, MIN, MAX);
            dueNone("spirit", x, v -> x.horse(0, 0, v), -1, 10, MIN, MAX);
            Check.due("horse 1", x.horse(1, 999, 9), 1);
            for (int h = 2; h <= 9; h++) {
                Check.due("horse " + h, x.horse(0, 0, 0), h);
            }
            Check.due("owner", x.horseOf(1, 0), 1);
            Check.due("worth", x.horseOf(1, 1), 999);
            Check.due("spirit", x.horseOf(1, 2), 9);
            dueNone("the eleventh", x, v -> x.horse(0, v, 0), 0, 1);
            Check.due("ten", x.look(1), 10);
        });
    }

    private static void set() {
        Sentence.holds("Promise 5", "What 0 .. 4 the TRAIT, 5 PURSE of PERSON who, 6 WORTH, 7 SPIRIT of HORSE who: true", () -> {
            ClaspedFair x = market();
            int[] most = {999, 999, 999, 999, 999, 9999, 999, 9};
            for (int what = 0; what <= 7; what++) {
                int who = what <= 5 ? 1 : 0;
                Check.due("to the most", x.set(what, who, most[what]), true);
                Check.due("the most", what <= 5 ? x.of(1, what) : x.horseOf(0, what - 5), most[what]);
                Check.due("to 0", x.set(what, who, 0), true);
                Check.due("0", what <= 5 ? x.of(1, what) : x.horseOf(0, what - 5), 0);
            }
            Check.due("of another one", x.of(0, 5), 1000);
        });
        Sentence.holds("Promise 5", "false if one can't be, or another what.", () -> {
            ClaspedFair x = market();
            String was = Check.seen(x);
            int[] most = {999, 999, 999, 999, 999, 9999, 999, 9};
            for (int what = 0; what <= 7; what++) {
                for (int v : new int[] {-1, most[what] + 1, MIN, MAX}) {
                    Check.due("set(" + what + ", 0, " + v + ")", x.set(what, 0, v), false);
                }
                for (int who : new int[] {-1, what <= 5 ? 2 : 1, MIN, MAX}) {
                    Check.due("set(" + what + ", " + who + ", 0)", x.set(what, who, 0), false);
                }
            }
            for (int what : new int[] {-1, 8, MIN, MAX}) {
                Check.due("set(" + what + ", 0, 0)", x.set(what, 0, 0), false);
            }
            Check.due("nothing has changed", Check.seen(x).equals(was), true);
        });
    }

    private static void bargains() {
        Sentence.holds("Promise 6", "A BARGAIN: how much passed (0, if he held on); NONE if it can't be.", () -> {
            ClaspedFair x = market();
            dueNone("buyer", x, v -> x.buys(v, 0, 400, 1), -1, 0, 2, MIN, MAX);
            dueNone("horse", x, v -> x.buys(1, v, 400, 1), -1, 1, MIN, MAX);
            dueNone("price", x, v -> x.buys(1, 0, v, 1), -1, 0, 389, 501, 10000, MIN, MAX);
            dueNone("grip", x, v -> x.buys(1, 0, 400, v), -1, 0, 10, MIN, MAX);
            Check.dueText(x, 0, "holds 0;passes 10;", 2);
            Check.due("passed", x.buys(1, 0, 400, 1), passedBy(x, 10));
            x.undo();
            Check.dueText(x, 0, "holds 1000;passes 10;", 2);
            Check.due("held on", x.buys(1, 0, 400, 1), 0);
        });
        Sentence.holds("Promise 7", "To CLASP: how much passed (0, if he held on); NONE if it can't be.", () -> {
            ClaspedFair x = market();
            dueNone("the first one", x, v -> x.clasp(v, 0, 1), -1, 0, 2, MIN, MAX);
            dueNone("the second one", x, v -> x.clasp(0, v, 1), -1, 0, 2, MIN, MAX);
            dueNone("grip", x, v -> x.clasp(0, 1, v), -1, 0, 10, MIN, MAX);
            Check.dueText(x, 0, "holds 0;passes 10;", 2);
            Check.due("passed", x.clasp(0, 1, 1), passedBy(x, 10));
            x.undo();
            Check.dueText(x, 0, "holds 1000;passes 10;", 2);
            Check.due("held on", x.clasp(0, 1, 1), 0);
        });
    }

    /** By what is in the book: the last line is of what passed. */
    private static int passedBy(ClaspedFair x, int ofThousand) {
        int last = x.look(5) - 1;
        Check.due("a line of what passed", x.book(last, 1), 2);
        // After the clasp of market() one has 104, the other one 296 of each.
        Check.due("how much", x.book(last, 3), 5 * (104 * ofThousand / 1000 + 296 * ofThousand / 1000));
        return x.book(last, 3);
    }

    private static void hand() {
        Sentence.holds("Promise 8", "HAND of a PERSON (0 .. 2): true; false if it is so, or one can't be.", () -> {
            ClaspedFair x = market();
            for (int v : new int[] {1, 2, 0, 2, 1, 0}) {
                Check.due("HAND", x.hand(1, v), true);
                Check.due("HAND", x.of(1, 6), v);
                Check.dueRefused("it is so", x, () -> of(x.hand(1, v)), 0);
            }
            String was = Check.seen(x);
            for (int v : new int[] {-1, 3, MIN, MAX}) {
                Check.due("hand(0, " + v + ")", x.hand(0, v), false);
            }
            for (int p : new int[] {-1, 2, MIN, MAX}) {
                Check.due("hand(" + p + ", 1)", x.hand(p, 1), false);
            }
            Check.due("nothing has changed", Check.seen(x).equals(was), true);
        });
    }

    private static void days() {
        Sentence.holds("Promise 9", "DAYS go by (1 .. 60): how many BARGAINS there were (those held on, too).", () -> {
            ClaspedFair x = market();
            Check.dueText(x, 0, "holds 1000 when day=0;holds 0;asks 0;", 3);
            Check.dueText(x, 1, "on 0 person 1 horse 0 at 1 grip 1;on 59 person 0 horse 0 at 1 grip 1;"
                    + "on 60 person 1 horse 0 at 1 grip 1;", 3);
            x.image(true);
            Check.due("1 day", x.days(1), 1);
            Check.due("held on", x.look(3), 1);
            x.image(false);
            Check.due("60 days", x.days(60), 2);
            Check.due("DAY", x.look(4), 60);
            Check.due("one day more", x.days(1), 1);
        });
        Sentence.holds("Promise 9", "NONE, and nothing is done, if one can't be, or DAY would be above 9999.", () -> {
            ClaspedFair x = market();
            Check.dueText(x, 2, "on 0 glove 0;", 1);
            dueNone("days", x, x::days, -1, 0, 61, MIN, MAX);
            for (int i = 0; i < 166; i++) {
                x.days(60);
            }
            dueNone("from 9960 on", x, x::days, 40, 41, 60);
            Check.due("39 days", x.days(39), 0);
            dueNone("from 9999 on", x, x::days, 1, 2, 60);
        });
    }

    /** How many bytes the TAPE has. */
    private static int length(ClaspedFair x) {
        for (int n = 400; n > 0; n--) {
            if (x.end(n)) {
                return n;
            }
        }
        return 0;
    }

    private static void tape() {
        Sentence.holds("Promise 10", "Twenty bytes come behind the TAPE, of each number the highest first: how many it has.",
                () -> {
            ClaspedFair x = market();
            // "asks" " 12;" "hold" "s 34" ";   "
            Check.due("twenty", x.feed(0x61736b73, 0x2031323b, 0x686f6c64, 0x73203334, 0x3b202020), 20);
            Check.due("forty", x.feed(0x61736b73, 0x2031323b, 0x686f6c64, 0x73203334, 0x3b202020), 40);
            Check.due("four lines", x.text(0), 4);
            Check.due("asks", x.asks(1, 0, 1), 12);
            Check.due("holds", x.holds(0, 1, 1), 34);
            // Bytes above 127 are no signs of a text, wherever in a number they stand.
            for (int i = 0; i < 4; i++) {
                x.feed(0x20202020 | 0x80 << 24 - 8 * i, 0, 0, 0, 0);
                Check.due("no token", x.text(0), -1);
                Check.due("its place", x.fault(1), i);
            }
        });
        Sentence.holds("Promise 10", "NONE, and nothing comes, if there would be more than 400.", () -> {
            ClaspedFair x = market();
            for (int i = 1; i <= 20; i++) {
                Check.due("feed", x.feed(0x20202020, 0x20202020, 0x20202020, 0x20202020, 0x20202020), 20 * i);
            }
            dueNone("beyond 400", x, v -> x.feed(v, v, v, v, v), 0, -1);
            Check.due("400 bytes", x.end(400), true);
            Check.due("381 bytes", x.end(381), true);
            dueNone("from 381 on", x, v -> x.feed(v, v, v, v, v), 0, -1);
            Check.due("no more bytes", length(x), 381);
            Check.due("380 bytes", x.end(380), true);
            Check.due("just 400", x.feed(0x20202020, 0x20202020, 0x20202020, 0x20202020, 0x20202020), 400);
            Check.due("blanks alone", x.text(0), 0);
            Check.due("from the beginning then", x.feed(0, 0, 0, 0, 0), 20);
        });
        Sentence.holds("Promise 11", "The TAPE has its first n bytes alone: true; false, changing nothing, if it has not so"
                + " many, or n is below 0.", () -> {
            ClaspedFair x = market();
            Check.due("none of none", x.end(0), true);
            Check.due("one of none", x.end(1), false);
            Check.write(x, "asks 123;asks 4;");
            for (int n : new int[] {17, 20, 400, 401, -1, MIN, MAX}) {
                Check.dueRefused("end(" + n + ")", x, () -> of(x.end(n)), 0);
            }
            Check.due("nothing has changed", length(x), 16);
            Check.due("all of them", x.end(16), true);
            Check.due("the first nine", x.end(9), true);
            Check.due("not so many now", x.end(10), false);
            Check.due("one line", x.text(0), 1);
            Check.due("asks", x.asks(1, 0, 1), 123);
            Check.write(x, "asks 1;");
            Check.due("in the midst of a KEYWORD", x.end(3), true);
            Check.due("no KEYWORD", x.text(0), -1);
            Check.due("its place", x.fault(1), 0);
            Check.write(x, "asks 1;");
            Check.due("before the sign", x.end(6), true);
            Check.due("no sign", x.text(0), -1);
            Check.due("its place", x.fault(1), 6);
            Check.write(x, "asks 123;");
            Check.due("none", x.end(0), true);
            Check.due("an empty text", x.text(0), 0);
        });
    }

    private static void text() {
        Sentence.holds("Promise 12", "The TAPE, empty then, is TEXT k: how many lines.", () -> {
            ClaspedFair x = market();
            String[] texts = {"asks 1;asks 2;", "on 0 person 0 horse 0 at 0 grip 1;", "on 0 bare 0;on 0 bare 1;", "person 0 kin 1;"};
            int[] lines = {2, 1, 2, 1};
            for (int k = 0; k <= 3; k++) {
                Check.dueText(x, k, texts[k], lines[k]);
                Check.due("empty then", length(x), 0);
                Check.due("lines", x.look(7 + k), lines[k]);
            }
            for (int k = 0; k <= 3; k++) {
                Check.due("an empty one", x.text(k), 0);
                Check.due("no lines", x.look(7 + k), 0);
            }
        });
        Sentence.holds("Promise 12", "how many lines.", () -> {
            ClaspedFair x = market();
            // Four hundred tokens, and one of four hundred signs.
            Check.dueFault(x, 0, ";".repeat(400), 1, 0);
            Check.dueFault(x, 0, "s".repeat(400), 1, 0);
            Check.dueFault(x, 0, "1".repeat(400), 1, 0);
            Check.dueText(x, 0, " ".repeat(400), 0);
            // A full TAPE whose end is the beginning of a KEYWORD, and one whose end is a line's.
            Check.dueFault(x, 0, " ".repeat(397) + "ask", 1, 397);
            Check.dueText(x, 0, " ".repeat(393) + "asks 1;", 1);
            // However many are told one behind the other, each is the whole text.
            Check.dueText(x, 0, "asks 8/2;", 1);
            Check.dueText(x, 0, "asks 9;", 1);
            Check.due("asks", x.asks(1, 0, 1), 9);
            for (int i = 0; i < 30; i++) {
                Check.dueText(x, 0, "asks 1" + "+1".repeat(40 + i) + ";", 1);
                Check.due("asks", x.asks(1, 0, 1), 41 + i);
            }
            Check.dueText(x, 2, "on 0 pay 0 1;on 0 pay 0 2;on 0 pay 0 4;", 3);
            Check.dueText(x, 2, "on 0 pay 0 1;", 1);
            Check.due("one line alone", x.goes(1, 2), 1501);
            Check.dueText(x, 2, "on 0 pay 0 1;".repeat(16), 16);
            Check.due("sixteen lines", x.goes(1, 2), 1516);
            Check.dueText(x, 0, "asks 0;passes 0;", 2);
            Check.dueText(x, 1, "on0person1horse0at1grip1;on0person0horse0at1grip1;".repeat(8), 16);
            Check.due("sixteen bargains", x.goes(1, 3), 16);
            Check.dueText(x, 1, "on0person1horse0at1grip1;", 1);
            Check.due("one bargain", x.goes(1, 3), 1);
        });
        Sentence.holds("Promise 12", "NONE: no such one (fault() tells 0), or a FAULT (it stays as it was).", () -> {
            ClaspedFair x = market();
            Check.dueText(x, 0, "asks 77;", 1);
            for (int k : new int[] {-1, 4, MIN, MAX}) {
                Check.dueFault(x, 0, "asks", 1, 4);
                Check.write(x, "asks 78;");
                Check.due("text(" + k + ")", x.text(k), -1);
                Check.due("fault(0)", x.fault(0), 0);
                Check.due("fault(1)", x.fault(1), -1);
                x.end(0);
            }
            Check.dueFault(x, 0, "asks 5;asks 6;holds", 1, 19);
            Check.due("it stays as it was", x.look(7), 1);
            Check.due("it stays as it was", x.asks(1, 0, 1), 77);
            Check.dueText(x, 1, "on 3 person 1 horse 0 at 77 grip 1;", 1);
            Check.dueFault(x, 1, "on 0 person 1 horse 0 at 77 grip 1;on", 1, 37);
            Check.due("it stays as it was", x.goes(3, 3), 0);
            Check.due("it stays as it was", x.goes(4, 3), 1);
            Check.dueText(x, 2, "on 0 pay 0 5;", 1);
            Check.dueFault(x, 2, "on 0 pay 0 9;on", 1, 15);
            Check.due("it stays as it was", x.goes(1, 2), 1505);
            Check.dueText(x, 3, "person 0 kin 1;", 1);
            Check.dueFault(x, 3, "person 1 kin 1;", 2, 13);
            Check.due("it stays as it was", x.of(0, 8), 2);
        });
        Sentence.holds("Promise 13", "Of the latest text() what 0 the FAULT (0 without one), 1 its place (NONE). NONE for another"
                + " what.", () -> {
            ClaspedFair x = market();
            Check.due("before any", x.fault(0), 0);
            Check.due("before any", x.fault(1), -1);
            for (int fault = 1; fault <= 3; fault++) {
                String text = fault == 1 ? "asks" : fault == 2 ? "asks 1/0;" : "asks 1 when (((((((((";
                int place = fault == 1 ? 4 : fault == 2 ? 7 : 20;
                Check.dueFault(x, 0, text, fault, place);
                dueNone("fault", x, x::fault, -1, 2, MIN, MAX);
                x.days(1);
                x.feed(0, 0, 0, 0, 0);
                x.end(0);
                x.undo();
                Check.due("still the latest", x.fault(0), fault);
                Check.due("still the latest", x.fault(1), place);
            }
            Check.dueText(x, 0, "asks 1;", 1);
        });
    }

    private static void asked() {
        Sentence.holds("Promise 14", "Of a PERSON what 0 .. 4 the TRAIT, 5 PURSE, 6 HAND, 7 SHOOK, 8 his kin (a set).", () -> {
            ClaspedFair x = new ClaspedFair();
            for (int p = 0; p <= 11; p++) {
                x.person(10 + p, 0);
            }
            for (int t = 0; t <= 4; t++) {
                x.set(t, 11, 60 + t);
            }
            x.hand(11, 1);
            x.clasp(11, 0, 1);
            Check.due("no kin", x.of(11, 8), 0);
            Check.dueText(x, 3, "person 11 kin 0;person 10 kin 11;person 0 kin 11;", 3);
            int[] due = {60, 61, 62, 63, 64, 21, 1, 1, 1 | 1 << 10};
            for (int what = 0; what <= 8; what++) {
                Check.due("of(11, " + what + ")", x.of(11, what), due[what]);
            }
            Check.due("kin of 0", x.of(0, 8), 1 << 11);
        });
        Sentence.holds("Promise 14", "NONE if there is none such, or another what.", () -> {
            ClaspedFair x = market();
            dueNone("person", x, v -> x.of(v, 0), -1, 2, 11, 12, MIN, MAX);
            dueNone("person", x, v -> x.of(v, 8), -1, 2, 11, 12, MIN, MAX);
            dueNone("what", x, v -> x.of(0, v), -1, 9, MIN, MAX);
        });
        Sentence.holds("Promise 15", "Of a HORSE what 0 OWNER, 1 WORTH, 2 SPIRIT, 3 SOLD.", () -> {
            ClaspedFair x = market();
            x.horse(1, 12, 3);
            x.buys(0, 1, 12, 1);
            int[] due = {0, 12, 3, 1};
            for (int what = 0; what <= 3; what++) {
                Check.due("horseOf(1, " + what + ")", x.horseOf(1, what), due[what]);
            }
        });
        Sentence.holds("Promise 15", "NONE if there is none such, or another what.", () -> {
            ClaspedFair x = market();
            dueNone("horse", x, v -> x.horseOf(v, 0), -1, 1, 9, 10, MIN, MAX);
            dueNone("what", x, v -> x.horseOf(0, v), -1, 4, MIN, MAX);
        });
    }

    private static void law() {
        Sentence.holds("Promise 16", "passes of a, if he clasps b with a grip (no HORSE), for a TRAIT; NONE if there is none such"
                + " (alike).", () -> {
            ClaspedFair x = market();
            dueNone("a", x, v -> x.passes(v, 0, 1, 0), -1, 0, 2, MIN, MAX);
            dueNone("b", x, v -> x.passes(0, v, 1, 0), -1, 0, 2, MIN, MAX);
            dueNone("grip", x, v -> x.passes(0, 1, v, 0), -1, 0, 10, MIN, MAX);
            dueNone("trait", x, v -> x.passes(0, 1, 1, v), -1, 5, MIN, MAX);
            Check.due("grip 1, trait 0", x.passes(0, 1, 1, 0), 20);
            Check.due("grip 9, trait 4", x.passes(0, 1, 9, 4), 180);
            Check.dueText(x, 0, "passes price+worth+spirit+purse;", 1);
            x.asks(1, 0, 1);
            Check.due("of a, no HORSE", x.passes(1, 0, 1, 0), 500);
        });
        Sentence.holds("Promise 17", "holds of b, if a clasps him so; NONE if there is none such (alike).", () -> {
            ClaspedFair x = market();
            dueNone("a", x, v -> x.holds(v, 0, 1), -1, 0, 2, MIN, MAX);
            dueNone("b", x, v -> x.holds(0, v, 1), -1, 0, 2, MIN, MAX);
            dueNone("grip", x, v -> x.holds(0, 1, v), -1, 0, 10, MIN, MAX);
            Check.due("grip 1", x.holds(0, 1, 1), 90);
            Check.due("grip 9", x.holds(0, 1, 9), 90);
            Check.dueText(x, 0, "holds grip;asks 0;", 2);
            for (int grip = 1; grip <= 9; grip++) {
                x.asks(1, 0, 10 - grip);
                Check.due("that grip", x.holds(0, 1, grip), grip);
            }
            Check.dueText(x, 0, "holds price+worth+spirit+purse;", 1);
            x.asks(1, 0, 1);
            Check.due("of b, no HORSE", x.holds(0, 1, 1), 500);
        });
        Sentence.holds("Promise 18", "asks of the OWNER for a buyer (price 0); NONE if there is none such (his own).", () -> {
            ClaspedFair x = market();
            dueNone("buyer", x, v -> x.asks(v, 0, 1), -1, 0, 2, MIN, MAX);
            dueNone("horse", x, v -> x.asks(1, v, 1), -1, 1, MIN, MAX);
            dueNone("grip", x, v -> x.asks(1, 0, v), -1, 0, 10, MIN, MAX);
            Check.due("grip 1", x.asks(1, 0, 1), 390);
            Check.due("grip 9", x.asks(1, 0, 9), 310);
            Check.dueText(x, 0, "asks price+purse;", 1);
            Check.due("of the OWNER, price 0", x.asks(1, 0, 1), 1000);
        });
    }

    private static void book() {
        Sentence.holds("Promise 19", "Of line i of THE BOOK what 0 DAY, 1 what, 2 who, 3 how much. NONE if there is none such, or"
                + " another what.", () -> {
            ClaspedFair none = new ClaspedFair();
            dueNone("an empty book", none, v -> none.book(v, 0), -1, 0, 1, 149, 150, MIN, MAX);
            ClaspedFair x = market();
            Check.due("two lines", x.look(5), 2);
            int[][] due = {{0, 1, 0, 1}, {0, 2, 0, 5 * (2 + 6)}};
            for (int what = 0; what <= 3; what++) {
                Check.due("the first, " + what, x.book(0, what), due[0][what]);
                Check.due("the last, " + what, x.book(1, what), due[1][what]);
            }
            dueNone("line", x, v -> x.book(v, 0), -1, 2, 149, 150, MIN, MAX);
            dueNone("what", x, v -> x.book(0, v), -1, 4, MIN, MAX);
            x.undo();
            dueNone("what was undone", x, v -> x.book(v, 0), 0, 1);
        });
    }

    private static void thought() {
        Sentence.holds("Promise 20", "GOES what 0 PASSED, 1 HELD, 2 PURSES, 3 SOLD. NONE if one can't be, or another what.", () -> {
            ClaspedFair x = market();
            dueNone("days", x, v -> x.goes(v, 0), -1, 0, 61, MIN, MAX);
            dueNone("what", x, v -> x.goes(1, v), -1, 4, MIN, MAX);
            Check.dueText(x, 0, "holds 1000;asks 0;", 2);
            Check.dueText(x, 1, "on 0 person 1 horse 0 at 7 grip 1;", 1);
            int[] due = {40, 1, 1500, 1};
            for (int what = 0; what <= 3; what++) {
                Check.due("1 day, " + what, x.goes(1, what), due[what]);
                Check.due("60 days, " + what, x.goes(60, what), due[what]);
            }
        });
        Sentence.holds("Promise 21", "WOULD; NONE - 999 if it can't be.", () -> {
            ClaspedFair x = market();
            String was = Check.seen(x);
            int[][] wrong = {{-1, 0, 400, 1}, {0, 0, 400, 1}, {2, 0, 400, 1}, {1, -1, 400, 1}, {1, 1, 400, 1}, {1, 0, -1, 1},
                {1, 0, 389, 1}, {1, 0, 501, 1}, {1, 0, 400, 0}, {1, 0, 400, 10}, {MIN, MAX, MIN, MAX}};
            for (int[] w : wrong) {
                Check.due("can't be", x.would(w[0], w[1], w[2], w[3]), -1000);
            }
            x.set(1, 1, 0);
            was = Check.seen(x);
            // 104 and 296 they have of TRAIT 0: 2 comes, 5 goes.
            Check.due("can be", x.would(1, 0, 390, 1), 2 - 5);
            Check.due("nothing has changed", Check.seen(x).equals(was), true);
            x.hand(0, 2);
            Check.due("in a sling", x.would(1, 0, 390, 1), -1000);
        });
    }

    private static void told() {
        Sentence.holds("Promise 22", "A clasp for CAME (a NONE: none is then): how many; NONE if one can't be, or there are"
                + " sixteen.", () -> {
            ClaspedFair x = market();
            dueNone("a", x, v -> x.told(v, 0), -2, 0, 12, MIN, MAX);
            dueNone("b", x, v -> x.told(0, v), -1, 0, 12, MIN, MAX);
            for (int i = 2; i <= 16; i++) {
                Check.due("told", x.told(10, 11), i);
            }
            dueNone("the seventeenth", x, v -> x.told(v, 5), 0, 11);
            Check.due("none is then", x.told(-1, 7), 0);
            Check.due("none", x.came(-1, -1), 0);
            Check.due("from 1 on again", x.told(11, 0), 1);
            Check.due("none is then, whatever b", x.told(-1, MAX), 0);
        });
        Sentence.holds("Promise 23", "REACHED of a (b NONE); by which clasp to b (alike: NONE); ODD (a NONE). NONE if one can't"
                + " be.", () -> {
            ClaspedFair x = market();
            Check.due("reached", x.came(0, -1), 3);
            Check.due("reached of one who did not", x.came(11, -1), 1 << 11);
            Check.due("by which", x.came(0, 1), 0);
            x.told(1, 11);
            Check.due("to the last one", x.came(0, 11), 1);
            Check.due("from the last one", x.came(11, 1), 1);
            x.told(-1, 0);
            x.told(0, 1);
            Check.due("by none", x.came(0, 11), -1);
            Check.due("alike", x.came(0, 0), -1);
            Check.due("odd", x.came(-1, -1), 3);
            Check.due("odd", x.came(-1, 11), 3);
            dueNone("a", x, v -> x.came(v, 0), -2, 12, MIN, MAX);
            dueNone("a", x, v -> x.came(v, -1), -2, 12, MIN, MAX);
            dueNone("b", x, v -> x.came(0, v), -2, 12, MIN, MAX);
        });
    }

    private static void could() {
        Sentence.holds("Promise 24", "A number for COULD (NONE: none is then): how many; NONE if one can't be, or there are nine.",
                () -> {
            ClaspedFair x = market();
            dueNone("number", x, x::number, -2, 9, MIN, MAX);
            Check.due("0", x.number(0), 2);
            for (int i = 3; i <= 9; i++) {
                Check.due("8", x.number(8), i);
            }
            dueNone("the tenth", x, x::number, 0, 8);
            Check.due("none is then", x.number(-1), 0);
            Check.due("could", x.could(), 1);
            Check.due("from 1 on again", x.number(1), 1);
            Check.due("could not", x.could(), 0);
        });
        Sentence.holds("Promise 25", "COULD (none told: 1).", () -> {
            ClaspedFair x = new ClaspedFair();
            Check.due("none told", x.could(), 1);
            x.number(1);
            Check.due("one with nobody", x.could(), 0);
            x.number(1);
            Check.due("two with each other", x.could(), 1);
        });
        Sentence.holds("Promise 26", "RING; NONE if n can't be.", () -> {
            ClaspedFair x = market();
            dueNone("ring", x, x::ring, -1, -2, 25, 26, MIN, MAX);
            Check.due("0", x.ring(0), 1);
            Check.due("1", x.ring(1), 0);
            Check.due("23", x.ring(23), 0);
            Check.due("24", x.ring(24), 208012);
        });
    }

    private static void pairs() {
        Sentence.holds("Promise 27", "PAIRS what 0 how many, 10 + p with whom PERSON p is. NONE if there is none such, or another"
                + " what.", () -> {
            ClaspedFair x = market();
            dueNone("pairs", x, x::pairs, -1, 1, 9, 12, 21, 22, MIN, MAX);
            Check.due("how many", x.pairs(0), 1);
            Check.due("of 0", x.pairs(10), 1);
            Check.due("of 1", x.pairs(11), 0);
            ClaspedFair none = new ClaspedFair();
            Check.due("of none", none.pairs(0), 0);
            dueNone("of none", none, none::pairs, 9, 10, 11);
            for (int p = 2; p <= 11; p++) {
                x.person(0, 0);
            }
            Check.due("of 11", x.pairs(21), 10);
            dueNone("of twelve", x, x::pairs, 9, 22);
        });
        Sentence.holds("Promise 28", "WALK what 0 whether, 1 where. NONE, too, for another what. (None kin: 0.)", () -> {
            ClaspedFair x = market();
            dueNone("walk", x, x::walk, -1, 2, MIN, MAX);
            Check.due("none kin", x.walk(0), 0);
            Check.due("none kin", x.walk(1), -1);
            Check.dueText(x, 3, "person 1 kin 0;", 1);
            Check.due("kin", x.walk(0), 1);
            Check.due("kin", x.walk(1), 0);
            dueNone("walk", x, x::walk, -1, 2, MIN, MAX);
        });
        Sentence.holds("Promise 29", "PRICES what 0 the greatest, 1 how many. NONE if with a common part, one can't be, or another"
                + " what.", () -> {
            ClaspedFair x = market();
            for (int what = 0; what <= 1; what++) {
                int w = what;
                dueNone("a", x, v -> x.prices(v, 7, w), -1, 0, 1, 7, 14, 56, 61, MIN, MAX);
                dueNone("b", x, v -> x.prices(7, v, w), -1, 0, 1, 7, 14, 56, 61, MIN, MAX);
            }
            dueNone("what", x, v -> x.prices(2, 3, v), -1, 2, MIN, MAX);
            Check.due("the greatest", x.prices(2, 3, 0), 1);
            Check.due("how many", x.prices(5, 3, 1), 4);
        });
    }

    private static void scale() {
        Sentence.holds("Promise 30", "A weight for SCALE (NONE: none is then): how many; NONE if one can't be, or there are five.",
                () -> {
            ClaspedFair x = market();
            dueNone("weight", x, x::weight, -2, 0, 201, MIN, MAX);
            Check.due("1", x.weight(1), 2);
            for (int i = 3; i <= 5; i++) {
                Check.due("200", x.weight(200), i);
            }
            dueNone("the sixth", x, x::weight, 1, 200);
            Check.due("none is then", x.weight(-1), 0);
            Check.due("nothing can be weighed", x.balance(1, 0), 0);
            Check.due("from 1 on again", x.weight(1), 1);
        });
        Sentence.holds("Promise 31", "BALANCE what 0 on both sides, 1 on one (1, 0), 2 the greatest (v not asked). NONE if v can't"
                + " be, or another what.", () -> {
            ClaspedFair x = market();
            x.weight(1);
            for (int what = 0; what <= 1; what++) {
                int w = what;
                dueNone("v", x, v -> x.balance(v, w), -1, 1001, MIN, MAX);
                Check.due("0", x.balance(0, what), 1);
                Check.due("3", x.balance(3, what), 1);
                Check.due("4", x.balance(4, what), 0);
                Check.due("1000", x.balance(1000, what), 0);
            }
            for (int v : new int[] {-1, 0, 1001, MIN, MAX}) {
                Check.due("v not asked", x.balance(v, 2), 3);
            }
            dueNone("what", x, v -> x.balance(0, v), -1, 3, MIN, MAX);
        });
    }

    private static void peopleInThought() {
        Sentence.holds("Promise 32", "COLD: on how many days (n NONE), how many by day n. NONE if one can't be.", () -> {
            ClaspedFair x = market();
            Check.dueText(x, 3, "person 1 kin 0;", 1);
            dueNone("person", x, v -> x.cold(v, 0), -1, 2, 12, MIN, MAX);
            dueNone("person", x, v -> x.cold(v, -1), -1, 2, 12, MIN, MAX);
            dueNone("day", x, v -> x.cold(0, v), -2, 21, MIN, MAX);
            Check.due("on one day", x.cold(0, -1), 1);
            Check.due("by day 0", x.cold(0, 0), 1);
            Check.due("by day 20", x.cold(0, 20), 2);
        });
        Sentence.holds("Promise 33", "ALIKE; NEAREST (b NONE). NONE if there is none such.", () -> {
            ClaspedFair x = market();
            dueNone("a", x, v -> x.alike(v, 0), -1, -2, 2, 12, MIN, MAX);
            dueNone("a", x, v -> x.alike(v, -1), -1, -2, 2, 12, MIN, MAX);
            dueNone("b", x, v -> x.alike(0, v), -2, 2, 12, MIN, MAX);
            Check.due("alike", x.alike(0, 1), 5 * (296 - 104));
            Check.due("nearest", x.alike(0, -1), 1);
            ClaspedFair alone = new ClaspedFair();
            alone.person(0, 0);
            Check.due("alone", alone.alike(0, -1), -1);
        });
        Sentence.holds("Promise 36", "LEFT what 0 which, 1 of how many. NONE if there is none such, or another what.", () -> {
            ClaspedFair x = market();
            for (int what = 0; what <= 1; what++) {
                int w = what;
                dueNone("person", x, v -> x.left(v, w), -1, 2, 12, MIN, MAX);
            }
            dueNone("what", x, v -> x.left(0, v), -1, 2, MIN, MAX);
            Check.due("which", x.left(1, 0), 0);
            Check.due("of how many", x.left(1, 1), 5);
            Check.due("of how many", x.left(0, 1), 0);
        });
        Sentence.holds("Promise 37", "SIGNS; NONE if n can't be.", () -> {
            ClaspedFair x = market();
            dueNone("signs", x, x::signs, -1, 0, 21, MIN, MAX);
            Check.due("1", x.signs(1), 1);
            Check.due("20", x.signs(20), 55405);
        });
    }

    private static void pens() {
        Sentence.holds("Promise 34", "A herd for PENS (NONE: none is then): how many; NONE if one can't be, or there are seven.",
                () -> {
            ClaspedFair x = market();
            dueNone("herd", x, x::herd, -2, 0, 31, MIN, MAX);
            Check.due("1", x.herd(1), 2);
            for (int i = 3; i <= 7; i++) {
                Check.due("30", x.herd(30), i);
            }
            dueNone("the eighth", x, x::herd, 1, 30);
            Check.due("none is then", x.herd(-1), 0);
            Check.due("none", x.pens(1, 0), 0);
            Check.due("from 1 on again", x.herd(30), 1);
        });
        Sentence.holds("Promise 35", "PENS what 0 the fullest, 1 LEVEL. NONE if k can't be, or another what.", () -> {
            ClaspedFair x = market();
            for (int what = 0; what <= 1; what++) {
                int w = what;
                dueNone("k", x, v -> x.pens(v, w), -1, 0, 5, MIN, MAX);
            }
            dueNone("what", x, v -> x.pens(1, v), -1, 2, MIN, MAX);
            Check.due("into 1", x.pens(1, 0), 2);
            Check.due("into 1", x.pens(1, 1), 0);
            Check.due("into 4", x.pens(4, 0), 2);
            Check.due("into 4", x.pens(4, 1), 2);
        });
    }

    private static void game() {
        Sentence.holds("Promise 38", "A row of hands for GAME (NONE: none is then): how many; NONE if one can't be, or there are"
                + " six.", () -> {
            ClaspedFair x = market();
            dueNone("row", x, x::row, -2, 0, 21, MIN, MAX);
            Check.due("1", x.row(1), 2);
            for (int i = 3; i <= 6; i++) {
                Check.due("20", x.row(20), i);
            }
            dueNone("the seventh", x, x::row, 1, 20);
            Check.due("none is then", x.row(-1), 0);
            Check.due("none", x.game(0), -1);
            Check.due("from 1 on again", x.row(1), 1);
            Check.due("one", x.game(0), 0);
        });
        Sentence.holds("Promise 39", "GAME what 0 the row, 1 the place, 2 how many. NONE if who begins loses, or for another what.",
                () -> {
            ClaspedFair x = market();
            dueNone("what", x, x::game, -1, 3, MIN, MAX);
            Check.due("the row", x.game(0), 0);
            Check.due("the place", x.game(1), 0);
            Check.due("how many", x.game(2), 2);
            x.row(2);
            dueNone("who begins loses", x, x::game, 0, 1, 2);
            x.row(-1);
            dueNone("no rows", x, x::game, 0, 1, 2);
        });
    }

    private static void undo() {
        Sentence.holds("Promise 40", "UNDO: true; false if there is nothing.", () -> {
            ClaspedFair x = new ClaspedFair();
            Check.dueRefused("nothing", x, () -> of(x.undo()), 0);
            x.days(2);
            Check.due("the second day", x.undo(), true);
            Check.due("the first day", x.undo(), true);
            Check.due("DAY", x.look(4), 0);
            Check.dueRefused("nothing any more", x, () -> of(x.undo()), 0);
            x.days(60);
            for (int i = 0; i < 6; i++) {
                Check.due("six of sixty", x.undo(), true);
            }
            Check.dueRefused("no more are kept", x, () -> of(x.undo()), 0);
            Check.due("DAY", x.look(4), 54);
        });
        Sentence.holds("Promise 41", "THE IMAGE is taken (true), or gone back to (false): true; false if there is none.", () -> {
            ClaspedFair x = market();
            Check.dueRefused("none is there", x, () -> of(x.image(false)), 0);
            Check.due("one to undo still", x.look(11), 1);
            Check.due("taken", x.image(true), true);
            x.days(1);
            Check.due("gone back to", x.image(false), true);
            Check.due("DAY", x.look(4), 0);
            Check.due("gone back to again", x.image(false), true);
        });
    }

    private static void look() {
        Sentence.holds("Promise 42", "What 0 PEOPLE, 1 HORSES, 2 PASSED, 3 HELD, 4 DAY, 5 lines of THE BOOK, 6 STATE, 7 lines of"
                + " THE LAW, 8 of FAIR, 9 of HABITS, 10 of KIN, 11 what can be undone. NONE for another what. (STATE as it is.)",
                () -> {
            ClaspedFair x = market();
            dueNone("look", x, x::look, -1, 12, MIN, MAX);
            Check.dueText(x, 0, "holds 1000;asks 1;asks 2;asks 3;asks 4;", 5);
            Check.dueText(x, 1, "on 999 person 0 horse 0 at 0 grip 1;".repeat(6), 6);
            Check.dueText(x, 2, "on 999 bare 0;".repeat(7), 7);
            Check.dueText(x, 3, "person 0 kin 1;".repeat(8), 8);
            x.state(-5);
            x.days(9);
            x.clasp(0, 1, 1);
            x.undo();
            x.clasp(0, 1, 1);
            x.undo();
            x.undo();
            int[] due = {2, 1, 40, 0, 8, 2, -5, 5, 6, 7, 8, 4};
            for (int what = 0; what <= 11; what++) {
                Check.due("look(" + what + ")", x.look(what), due[what]);
            }
            x.clasp(0, 1, 1);
            Check.due("HELD", x.look(3), 1);
            Check.due("STATE as it is", x.look(6), 1664525 * -5 + 1013904223);
            Check.due("and stays", x.look(6), 1664525 * -5 + 1013904223);
        });
    }
}
