/** What the document says ahead of its terms, under term 1 and of the object as a whole. */
final class SentencesOfTerms {
    private static final int MIN = Integer.MIN_VALUE;
    private static final int MAX = Integer.MAX_VALUE;
    private static final int[] FAR = {MIN, MAX};

    private SentencesOfTerms() {
    }

    static void all() {
        object();
        draws();
        people();
        horses();
        counts();
    }

    private static ClaspedFair two() {
        ClaspedFair x = new ClaspedFair();
        x.person(1000, 100);
        x.person(500, 300);
        x.horse(0, 400, 5);
        return x;
    }

    private static void law(ClaspedFair x, String text) {
        Check.dueText(x, 0, text, text.length() - text.replace(";", "").length());
    }

    private static void object() {
        Sentence.holds("What it is", "An object is used for at most 512 calls after it has been made", () -> {
            ClaspedFair x = new ClaspedFair();
            for (int i = 0; i < 12; i++) {
                x.person(9999, 999);
            }
            for (int i = 12; i < 511; i++) {
                Check.due("pairs at call " + i, x.pairs(0), 6);
            }
            Check.due("the 512th call", x.look(0), 12);
        });
        Sentence.holds("Terms 4", "`NONE = -1`: None.", () -> Check.due("NONE", ClaspedFair.NONE, -1));
    }

    private static void draws() {
        Sentence.holds("Terms 0", "Quotients go downwards.", () -> {
            ClaspedFair x = new ClaspedFair();
            x.person(0, 999);
            x.person(0, 500);
            law(x, "holds 0;passes 1;");
            Check.due("999 and 500 of a thousand parts", x.clasp(0, 1, 1), 0);
            law(x, "holds 0;passes 2;");
            Check.due("1998 and 1000 of a thousand parts", x.clasp(0, 1, 1), 5 * (1 + 1));
        });
        Sentence.holds("Terms 0", "STATE of draws (an int, 0 at first)", () -> {
            ClaspedFair x = new ClaspedFair();
            Check.due("at first", x.look(6), 0);
            for (int v : FAR) {
                x.state(v);
                Check.due("the whole of an int", x.look(6), v);
            }
        });
        Sentence.holds("Terms 0", "it becomes 1664525 times itself + 1013904223 (ints, which wrap)", () -> {
            for (int s : new int[] {0, 1, 1000, -1, 2000000000, MIN, MAX}) {
                ClaspedFair x = two();
                law(x, "holds 1;");
                x.state(s);
                x.clasp(0, 1, 1);
                Check.due("after " + s, x.look(6), (int) (1664525L * s + 1013904223L));
            }
        });
        Sentence.holds("Terms 0", "then it is its highest 24 bits (without sign) modulo m", () -> {
            // 1000 becomes 2678429223, which is below 0 as an int; its highest 24 bits are 10462614.
            ClaspedFair x = two();
            law(x, "holds 614;");
            x.state(1000);
            Check.due("614 is drawn: not below 614", x.clasp(0, 1, 1) > 0, true);
            Check.due("none held on", x.look(3), 0);
            law(x, "holds 615;");
            x.state(1000);
            Check.due("614 is drawn: below 615", x.clasp(0, 1, 1), 0);
            Check.due("one held on", x.look(3), 1);
        });
    }

    private static void people() {
        Sentence.holds("Terms 1", "TRAITS 0 .. 4", () -> {
            ClaspedFair x = two();
            for (int t = 0; t <= 4; t++) {
                Check.due("trait " + t, x.set(t, 0, t + 1), true);
                Check.due("passes of trait " + t, x.passes(0, 1, 1, t), 20);
            }
            for (int t = 0; t <= 4; t++) {
                Check.due("trait " + t, x.of(0, t), t + 1);
            }
            Check.due("trait 5", x.passes(0, 1, 1, 5), -1);
            Check.due("trait -1", x.passes(0, 1, 1, -1), -1);
            Check.due("set trait -1", x.set(-1, 0, 1), false);
        });
        Sentence.holds("Terms 1", "PEOPLE 0 .. 11 as they come", () -> {
            ClaspedFair x = new ClaspedFair();
            for (int p = 0; p <= 11; p++) {
                Check.due("person " + p, x.person(p, p), p);
                Check.due("he is there", x.of(p, 5), p);
                Check.due("the next one is not", x.of(p + 1, 5), -1);
            }
            Check.due("the thirteenth", x.person(0, 0), -1);
        });
        Sentence.holds("Terms 1", "of each TRAIT 0 .. 999", () -> {
            ClaspedFair x = new ClaspedFair();
            Check.due("all 0", x.person(0, 0), 0);
            Check.due("all 999", x.person(0, 999), 1);
            Check.due("all -1", x.person(0, -1), -1);
            Check.due("all 1000", x.person(0, 1000), -1);
            for (int t = 0; t <= 4; t++) {
                Check.due("0", x.of(0, t), 0);
                Check.due("999", x.of(1, t), 999);
                Check.due("to 999", x.set(t, 0, 999), true);
                Check.due("to 0", x.set(t, 1, 0), true);
                Check.due("to 1000", x.set(t, 0, 1000), false);
                Check.due("to -1", x.set(t, 1, -1), false);
                Check.due("999", x.of(0, t), 999);
                Check.due("0", x.of(1, t), 0);
            }
        });
        Sentence.holds("Terms 1", "PURSE 0 .. 9999", () -> {
            ClaspedFair x = new ClaspedFair();
            Check.due("0", x.person(0, 0), 0);
            Check.due("9999", x.person(9999, 0), 1);
            Check.due("-1", x.person(-1, 0), -1);
            Check.due("10000", x.person(10000, 0), -1);
            Check.due("to 9999", x.set(5, 0, 9999), true);
            Check.due("to 0", x.set(5, 1, 0), true);
            Check.due("to 10000", x.set(5, 0, 10000), false);
            Check.due("to -1", x.set(5, 1, -1), false);
            Check.due("9999", x.of(0, 5), 9999);
            Check.due("0", x.of(1, 5), 0);
        });
        Sentence.holds("Terms 1", "HAND 0 bare, 1 gloved, 2 in a sling (0 at first)", () -> {
            ClaspedFair x = two();
            Check.due("at first", x.of(0, 6), 0);
            Check.due("bare: something passes", x.clasp(0, 1, 9) > 0, true);
            Check.due("gloved", x.hand(0, 1), true);
            Check.due("gloved: nothing passes", x.clasp(0, 1, 9), 0);
            Check.due("a sling", x.hand(0, 2), true);
            Check.due("in a sling: no clasp", x.clasp(0, 1, 9), -1);
            Check.due("no HAND 3", x.hand(0, 3), false);
            Check.due("no HAND -1", x.hand(0, -1), false);
            Check.due("still in a sling", x.of(0, 6), 2);
        });
        Sentence.holds("Terms 1", "SHOOK (how often, an int, 0 at first)", () -> {
            ClaspedFair x = two();
            law(x, "asks 0;holds 0;");
            Check.due("at first", x.of(0, 7), 0);
            x.clasp(0, 1, 1);
            x.buys(1, 0, 0, 1);
            Check.due("a clasp and a bargain", x.of(0, 7), 2);
            Check.due("of the other one, too", x.of(1, 7), 2);
            x.clasp(0, 0, 1);
            Check.due("a refused one does not count", x.of(0, 7), 2);
        });
    }

    private static void horses() {
        Sentence.holds("Terms 1", "HORSES 0 .. 9 as they come", () -> {
            ClaspedFair x = two();
            for (int h = 1; h <= 9; h++) {
                Check.due("there is no horse yet", x.horseOf(h, 1), -1);
                Check.due("horse " + h, x.horse(1, h, 0), h);
                Check.due("there it is", x.horseOf(h, 1), h);
            }
            Check.due("the eleventh", x.horse(1, 0, 0), -1);
            Check.due("there is no horse 10", x.horseOf(10, 1), -1);
        });
        Sentence.holds("Terms 1", "OWNER a PERSON", () -> {
            ClaspedFair x = two();
            Check.due("the last one", x.horse(1, 0, 0), 1);
            Check.due("his", x.horseOf(1, 0), 1);
            Check.due("one more than there are", x.horse(2, 0, 0), -1);
            Check.due("none", x.horse(-1, 0, 0), -1);
            Check.due("without people", new ClaspedFair().horse(0, 0, 0), -1);
        });
        Sentence.holds("Terms 1", "WORTH 0 .. 999", () -> {
            ClaspedFair x = two();
            Check.due("0", x.horse(0, 0, 1), 1);
            Check.due("999", x.horse(0, 999, 1), 2);
            Check.due("-1", x.horse(0, -1, 1), -1);
            Check.due("1000", x.horse(0, 1000, 1), -1);
            Check.due("to 999", x.set(6, 1, 999), true);
            Check.due("to 0", x.set(6, 2, 0), true);
            Check.due("to 1000", x.set(6, 1, 1000), false);
            Check.due("to -1", x.set(6, 2, -1), false);
            Check.due("999", x.horseOf(1, 1), 999);
            Check.due("0", x.horseOf(2, 1), 0);
        });
        Sentence.holds("Terms 1", "SPIRIT 0 .. 9", () -> {
            ClaspedFair x = two();
            Check.due("0", x.horse(0, 1, 0), 1);
            Check.due("9", x.horse(0, 1, 9), 2);
            Check.due("-1", x.horse(0, 1, -1), -1);
            Check.due("10", x.horse(0, 1, 10), -1);
            Check.due("to 9", x.set(7, 1, 9), true);
            Check.due("to 0", x.set(7, 2, 0), true);
            Check.due("to 10", x.set(7, 1, 10), false);
            Check.due("to -1", x.set(7, 2, -1), false);
            Check.due("9", x.horseOf(1, 2), 9);
            Check.due("0", x.horseOf(2, 2), 0);
        });
        Sentence.holds("Terms 1", "SOLD (how often, an int, 0 at first)", () -> {
            ClaspedFair x = two();
            law(x, "asks 0;holds 0;");
            Check.due("at first", x.horseOf(0, 3), 0);
            for (int i = 1; i <= 5; i++) {
                x.buys(i % 2, 0, 0, 1);
                Check.due("sold", x.horseOf(0, 3), i);
            }
            x.buys(1, 0, 0, 1);
            Check.due("a refused one does not count", x.horseOf(0, 3), 5);
        });
    }

    private static void counts() {
        Sentence.holds("Terms 1", "PASSED (how much of all TRAITS went over, an int, 0 at first)", () -> {
            ClaspedFair x = two();
            law(x, "holds 0;passes 10*trait;");
            Check.due("at first", x.look(2), 0);
            x.clasp(0, 1, 1);
            Check.due("1 + 3, 2 + 6, 3 + 9, 4 + 12", x.look(2), 40);
        });
        Sentence.holds("Terms 1", "HELD (how often one held on, an int, 0 at first)", () -> {
            ClaspedFair x = two();
            Check.due("at first", x.look(3), 0);
            law(x, "holds 1000;");
            x.clasp(0, 1, 1);
            x.clasp(0, 1, 1);
            Check.due("twice", x.look(3), 2);
            law(x, "holds 0;");
            x.clasp(0, 1, 1);
            Check.due("not then", x.look(3), 2);
        });
        Sentence.holds("Terms 1", "DAY 0 .. 9999 (0 at first)", () -> {
            ClaspedFair x = new ClaspedFair();
            Check.due("at first", x.look(4), 0);
            for (int i = 0; i < 166; i++) {
                x.days(60);
            }
            Check.due("up to 9999", x.days(39), 0);
            Check.due("DAY", x.look(4), 9999);
            Check.due("no further", x.days(1), -1);
            Check.due("DAY", x.look(4), 9999);
        });
    }
}
