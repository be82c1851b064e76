/** What the document says under term 4: thoughts, undoing, THE IMAGE. */
final class SentencesOfThought {
    private static final int MIN = Integer.MIN_VALUE;
    private static final int MAX = Integer.MAX_VALUE;

    private SentencesOfThought() {
    }

    static void all() {
        goes();
        came();
        could();
        ring();
        pairs();
        walk();
        prices();
        scale();
        cold();
        nearest();
        pens();
        leftAndSigns();
        game();
        undo();
        image();
    }

    private static ClaspedFair market(String law) {
        ClaspedFair x = new ClaspedFair();
        x.person(1000, 100);
        x.person(500, 300);
        x.horse(0, 400, 5);
        Check.dueText(x, 0, law, law.length() - law.replace(";", "").length());
        return x;
    }

    private static ClaspedFair people(int n) {
        ClaspedFair x = new ClaspedFair();
        for (int p = 0; p < n; p++) {
            x.person(0, 0);
        }
        return x;
    }

    /** Of pairs of digits, a for 10 and b for 11. */
    private static void kin(ClaspedFair x, String pairs) {
        StringBuilder text = new StringBuilder();
        int lines = 0;
        for (String pair : pairs.isEmpty() ? new String[0] : pairs.split(" ")) {
            text.append("person ").append(Character.digit(pair.charAt(0), 16));
            text.append(" kin ").append(Character.digit(pair.charAt(1), 16)).append(";");
            lines++;
        }
        Check.dueText(x, 3, text.toString(), lines);
    }

    private static void goes() {
        Sentence.holds("Terms 4", "(nothing of it stays; no DRAWS: one holds on, if holds is 500 at least)", () -> {
            ClaspedFair x = market("asks 0;holds 499;");
            Check.dueText(x, 1, "on 0 person 1 horse 0 at 10 grip 1;", 1);
            Check.dueText(x, 2, "on 0 pay 0 5;on 0 glove 1;on 0 bare 1;", 3);
            x.state(5);
            x.clasp(0, 1, 1);
            String was = Check.seen(x);
            Check.due("one would be sold", x.goes(60, 3), 1);
            Check.due("it can be", x.would(1, 0, 10, 1) != -1000, true);
            Check.due("nothing stays", Check.seen(x).equals(was), true);
            int lines = x.look(5);
            x.clasp(0, 1, 1);
            Check.due("a draw behind a thought", x.look(6), 1664525 * (1664525 * 5 + 1013904223) + 1013904223);
            Check.due("and lines in the book", x.look(5) > lines, true);
            Check.due("and one more to undo", x.look(11), 2);
            x.undo();
            Check.due("as before", Check.seen(x).equals(was), true);
            ClaspedFair y = market("asks 0;holds 499;");
            Check.dueText(y, 1, "on 0 person 1 horse 0 at 10 grip 1;", 1);
            Check.due("499: he does not", y.goes(1, 1), 0);
            Check.due("499: he does not", y.would(1, 0, 10, 1), 2 - 6);
            Check.dueText(y, 0, "asks 0;holds 500;", 2);
            Check.due("500: he does", y.goes(1, 1), 1);
            Check.due("500: he does", y.would(1, 0, 10, 1), 0);
            Check.due("no draws", y.look(6), 0);
        });
        Sentence.holds("Terms 4", "GOES for n (1 .. 60) DAYS: PASSED, HELD, PURSES of all, SOLD of all then.", () -> {
            ClaspedFair x = market("asks 0;holds 1000 when day=59;holds 0;passes 10;");
            Check.dueText(x, 1, "on 0 person 1 horse 0 at 10 grip 1;on 59 person 0 horse 0 at 10 grip 1;"
                    + "on 60 person 1 horse 0 at 10 grip 1;", 3);
            Check.dueText(x, 2, "on 59 pay 0 7;", 1);
            int[][] due = {{20, 0, 1500, 1}, {20, 1, 1507, 2}};
            for (int what = 0; what <= 3; what++) {
                Check.due("1 day, " + what, x.goes(1, what), due[0][what]);
                Check.due("59 days, " + what, x.goes(59, what), due[0][what]);
                Check.due("60 days, " + what, x.goes(60, what), due[1][what]);
                Check.due("0 days", x.goes(0, what), -1);
                Check.due("61 days", x.goes(61, what), -1);
            }
        });
        Sentence.holds("Terms 4", "PURSES of all, SOLD of all then.", () -> {
            ClaspedFair x = people(12);
            for (int h = 0; h < 10; h++) {
                x.horse(h, 0, 0);
            }
            for (int p = 0; p < 12; p++) {
                x.set(5, p, 1 << p);
            }
            Check.dueText(x, 1, "on0person11horse0at1grip1;on0person11horse9at1grip1;", 2);
            Check.due("all purses", x.goes(1, 2), 4095);
            Check.due("all sold", x.goes(1, 3), 2);
        });
        Sentence.holds("Terms 4", "WOULD a BARGAIN (that can be): how much more of TRAIT 0 the buyer has then (may be below 0)",
                () -> {
            ClaspedFair x = market("asks 0;holds 0;passes 1000 when own=300;passes 0;");
            Check.due("below 0", x.would(1, 0, 0, 1), -300);
            x.horse(1, 1, 1);
            Check.due("above 0", x.would(0, 1, 0, 1), 300);
            Check.dueText(x, 0, "asks 0;holds 0;passes 1000 when trait=1;passes 0;", 4);
            Check.due("TRAIT 0 alone", x.would(1, 0, 0, 1), 0);
            Check.due("that can't be", x.would(0, 0, 0, 1), -1000);
        });
    }

    private static void came() {
        Sentence.holds("Terms 4", "CAME, up to 16 told clasps in the order told (a, b of 0 .. 11, unlike)", () -> {
            ClaspedFair x = new ClaspedFair();
            Check.due("12", x.told(0, 12), -1);
            Check.due("12", x.told(12, 0), -1);
            Check.due("-1", x.told(0, -1), -1);
            Check.due("alike", x.told(11, 11), -1);
            for (int i = 1; i <= 15; i++) {
                Check.due("clasp " + i, x.told(11, 0), i);
            }
            Check.due("clasp 16", x.told(0, 1), 16);
            Check.due("clasp 17", x.told(1, 2), -1);
            Check.due("the last one counts", x.came(11, 1), 15);
            Check.due("the refused one does not", x.came(1, 2), -1);
            Check.due("in the order told", x.came(1, -1), 3);
        });
        Sentence.holds("Terms 4", "what was in one goes to both at each", () -> {
            ClaspedFair x = new ClaspedFair();
            x.told(0, 1);
            x.told(3, 2);
            x.told(2, 0);
            Check.due("of 1: to 0, and from him to 2", x.came(1, -1), 1 | 1 << 1 | 1 << 2);
            Check.due("of 3: to 2, and from him to 0", x.came(3, -1), 1 | 1 << 2 | 1 << 3);
            Check.due("of 0: to both", x.came(0, -1), 1 | 1 << 1 | 1 << 2);
        });
        Sentence.holds("Terms 4", "REACHED of one: all to whom what was in one at first came (a set; oneself too)", () -> {
            ClaspedFair x = new ClaspedFair();
            Check.due("none told: oneself", x.came(11, -1), 1 << 11);
            x.told(1, 2);
            x.told(0, 1);
            x.told(1, 11);
            Check.due("of 0: not by the clasp before", x.came(0, -1), 1 | 1 << 1 | 1 << 11);
            Check.due("of 2", x.came(2, -1), 1 | 1 << 1 | 1 << 2 | 1 << 11);
            Check.due("of 11", x.came(11, -1), 1 << 1 | 1 << 11);
            Check.due("of 5", x.came(5, -1), 1 << 5);
        });
        Sentence.holds("Terms 4", "the clasp by which it came to another one first (its number; NONE)", () -> {
            ClaspedFair x = new ClaspedFair();
            x.told(0, 1);
            x.told(1, 0);
            x.told(1, 2);
            Check.due("the first of two", x.came(0, 1), 0);
            Check.due("the last", x.came(0, 2), 2);
            Check.due("never", x.came(2, 0), -1);
            Check.due("never", x.came(0, 3), -1);
        });
        Sentence.holds("Terms 4", "ODD: who clasped an odd number of times (a set).", () -> {
            ClaspedFair x = new ClaspedFair();
            Check.due("none told", x.came(-1, 0), 0);
            x.told(0, 11);
            Check.due("both once", x.came(-1, 0), 1 | 1 << 11);
            x.told(11, 0);
            Check.due("both twice", x.came(-1, 0), 0);
            x.told(0, 5);
            Check.due("thrice and once", x.came(-1, 0), 1 | 1 << 5);
        });
    }

    private static void dueCould(int due, int... numbers) {
        ClaspedFair x = new ClaspedFair();
        for (int n : numbers) {
            x.number(n);
        }
        Check.due("could of " + java.util.Arrays.toString(numbers), x.could(), due);
    }

    private static void could() {
        Sentence.holds("Terms 4", "COULD: told numbers, up to 9 (0 .. 8: how often each shook)", () -> {
            ClaspedFair x = new ClaspedFair();
            Check.due("9", x.number(9), -1);
            Check.due("-2", x.number(-2), -1);
            Check.due("0", x.number(0), 1);
            for (int i = 2; i <= 9; i++) {
                Check.due("8", x.number(8), i);
            }
            Check.due("the tenth", x.number(0), -1);
            Check.due("eight of them can't shake with eight", x.could(), 0);
        });
        Sentence.holds("Terms 4", "whether there are so many who each shook so often, each with each once at most: 1, 0.",
                () -> {
            dueCould(1, 0);
            dueCould(0, 1);
            dueCould(1, 1, 1);
            dueCould(0, 2, 2);
            dueCould(0, 2, 0);
            dueCould(0, 1, 1, 1);
            dueCould(0, 2, 2, 1);
            dueCould(1, 2, 1, 1);
            dueCould(0, 2, 1, 2);
            dueCould(0, 3, 3, 1, 1);
            dueCould(1, 3, 3, 2, 2);
            dueCould(1, 8, 8, 8, 8, 8, 8, 8, 8, 8);
            dueCould(0, 7, 8, 8, 8, 8, 8, 8, 8, 8);
            dueCould(1, 7, 7, 8, 8, 8, 8, 8, 8, 8);
            dueCould(0, 8, 8, 1, 1, 1, 1, 1, 1, 2);
        });
    }

    private static void ring() {
        Sentence.holds("Terms 4", "RING of n (0 .. 24) people about a table", () -> {
            ClaspedFair x = new ClaspedFair();
            Check.due("-1", x.ring(-1), -1);
            Check.due("-2", x.ring(-2), -1);
            Check.due("0", x.ring(0), 1);
            Check.due("2", x.ring(2), 1);
            Check.due("24", x.ring(24), 208012);
            Check.due("25", x.ring(25), -1);
            Check.due("26", x.ring(26), -1);
        });
        Sentence.holds("Terms 4", "in how many ways all clasp at once, none crossing", () -> {
            ClaspedFair x = new ClaspedFair();
            int[] ways = {1, 1, 2, 5, 14, 42, 132, 429, 1430, 4862, 16796, 58786, 208012};
            for (int n = 0; n <= 12; n++) {
                Check.due("ring(" + 2 * n + ")", x.ring(2 * n), ways[n]);
            }
        });
        Sentence.holds("Terms 4", "(modulo 1000000007; odd: 0)", () -> {
            ClaspedFair x = new ClaspedFair();
            for (int n = 1; n <= 23; n += 2) {
                Check.due("ring(" + n + ")", x.ring(n), 0);
                Check.due("ring(" + (n + 1) + ") is below it", x.ring(n + 1) > 0 && x.ring(n + 1) < 1000000007, true);
            }
        });
    }

    private static void duePairs(ClaspedFair x, int many, int... with) {
        Check.due("pairs(0)", x.pairs(0), many);
        for (int p = 0; p < with.length; p++) {
            Check.due("with whom " + p + " is", x.pairs(10 + p), with[p]);
        }
    }

    private static void pairs() {
        Sentence.holds("Terms 4", "PAIRS by KIN: the most pairs of PEOPLE who are not kin, each in one at most: how many",
                () -> {
            duePairs(people(0), 0);
            duePairs(people(1), 0, -1);
            duePairs(people(2), 1, 1, 0);
            duePairs(people(3), 1, 1, 0, -1);
            Check.due("of eleven", people(11).pairs(0), 5);
            Check.due("of twelve", people(12).pairs(0), 6);
            ClaspedFair kin = people(2);
            kin(kin, "01");
            duePairs(kin, 0, -1, -1);
            // Of six four are all kin of one another: each of the two others can be with but one of them.
            ClaspedFair six = people(6);
            kin(six, "01 02 03 12 13 23");
            Check.due("two at the most", six.pairs(0), 2);
        });
        Sentence.holds("Terms 4", "with whom one is (NONE; of several ways the first, PERSON by PERSON, the least ahead of"
                + " none)", () -> {
            duePairs(people(5), 2, 1, 0, 3, 2, -1);
            duePairsOfAll(4, 1);
            duePairsOfAll(5, 1);
            duePairsOfAll(6, 37);
            ClaspedFair four = people(4);
            kin(four, "23");
            duePairs(four, 2, 2, 3, 0, 1);
            kin(four, "01 02 03");
            duePairs(four, 1, -1, 2, 1, -1);
            kin(four, "01 02 12 13");
            duePairs(four, 1, 3, -1, -1, 0);
            ClaspedFair three = people(3);
            kin(three, "01 02");
            duePairs(three, 1, -1, 2, 1);
        });
    }

    /** With whom each is, by trying all: of those with the most pairs the first, PERSON by PERSON, none last. */
    private static int[] bestPairs(boolean[][] kin, int[] with, int p) {
        int n = with.length;
        if (p == n) {
            return with.clone();
        }
        if (with[p] != -1) {
            return bestPairs(kin, with, p + 1);
        }
        int[] best = null;
        for (int q = p + 1; q < n; q++) {
            if (with[q] == -1 && !kin[p][q]) {
                with[p] = q;
                with[q] = p;
                best = better(best, bestPairs(kin, with, p + 1));
                with[p] = -1;
                with[q] = -1;
            }
        }
        return better(best, bestPairs(kin, with, p + 1));
    }

    private static int[] better(int[] first, int[] then) {
        return first == null || paired(then) > paired(first) ? then : first;
    }

    private static int paired(int[] with) {
        int many = 0;
        for (int w : with) {
            many += w == -1 ? 0 : 1;
        }
        return many;
    }

    /** All ways in which five can be kin, and some of six. */
    private static void duePairsOfAll(int people, int step) {
        ClaspedFair x = people(people);
        int lines = people * (people - 1) / 2;
        for (int graph = 0; graph < 1 << lines; graph += step) {
            boolean[][] kin = new boolean[people][people];
            StringBuilder text = new StringBuilder();
            int line = 0;
            for (int a = 0; a < people; a++) {
                for (int b = a + 1; b < people; b++, line++) {
                    kin[a][b] = (graph >> line & 1) == 1;
                    text.append(kin[a][b] ? "person " + a + " kin " + b + ";" : "");
                }
            }
            Check.dueText(x, 3, text.toString(), Integer.bitCount(graph));
            int[] none = new int[people];
            java.util.Arrays.fill(none, -1);
            int[] with = bestPairs(kin, none, 0);
            duePairs(x, paired(with) / 2, with);
        }
    }

    private static void dueWalk(String kin, int whether, int where) {
        ClaspedFair x = people(12);
        kin(x, kin);
        Check.due("walk(0) of " + kin, x.walk(0), whether);
        Check.due("walk(1) of " + kin, x.walk(1), where);
    }

    private static void walk() {
        Sentence.holds("Terms 4", "WALK by KIN: whether one can go along each line between kin just once", () -> {
            dueWalk("01", 1, 0);
            dueWalk("01 12 23 34 45 56 67 78 89 9a ab b0", 2, 0);
            dueWalk("01 12 23 34 45 56 67 78 89 9a ab b0 05", 1, 0);
            dueWalk("01 12 23 34 45 56 67 78 89 9a ab b0 05 27", 0, -1);
            dueWalk("01 12 20 ab", 0, -1);
        });
        Sentence.holds("Terms 4", "(alike lines count once)", () -> {
            dueWalk("35 35", 1, 3);
            dueWalk("35 53", 1, 3);
            dueWalk("35 56 63 35", 2, 3);
            dueWalk("01 01 02 03", 0, -1);
        });
        Sentence.holds("Terms 4", "2, if he comes back where he began, 1, if not, 0, if he can't", () -> {
            dueWalk("12 23 31", 2, 1);
            dueWalk("12 23", 1, 1);
            dueWalk("12 13 14", 0, -1);
            dueWalk("12 34", 0, -1);
            dueWalk("12 23 31 45 56 64", 0, -1);
            dueWalk("12 23 31 34 45 53", 2, 1);
            dueWalk("01 12 23 30 02 13", 0, -1);
        });
        Sentence.holds("Terms 4", "where he begins (the least who can; none: NONE)", () -> {
            dueWalk("", 0, -1);
            dueWalk("ab", 1, 10);
            dueWalk("9b ba a9", 2, 9);
            dueWalk("01 12 20 1b", 1, 1);
            dueWalk("0b b1 1a a0 b5", 1, 5);
            dueWalk("0b b1 1a a0 ab", 1, 10);
        });
    }

    private static void prices() {
        Sentence.holds("Terms 4", "PRICES of two coins a, b (2 .. 60)", () -> {
            ClaspedFair x = new ClaspedFair();
            Check.due("2, 3", x.prices(2, 3, 0), 1);
            Check.due("59, 60", x.prices(59, 60, 0), 3421);
            Check.due("60, 59", x.prices(60, 59, 1), 1711);
            for (int what = 0; what <= 1; what++) {
                Check.due("1, 3", x.prices(1, 3, what), -1);
                Check.due("3, 1", x.prices(3, 1, what), -1);
                Check.due("61, 3", x.prices(61, 3, what), -1);
                Check.due("3, 61", x.prices(3, 61, what), -1);
                Check.due("0, 0", x.prices(0, 0, what), -1);
            }
        });
        Sentence.holds("Terms 4", "the greatest price that can't be paid exactly", () -> {
            ClaspedFair x = new ClaspedFair();
            int[][] due = {{2, 3, 1}, {3, 2, 1}, {3, 5, 7}, {5, 7, 23}, {2, 59, 57}, {10, 3, 17}};
            for (int[] d : due) {
                Check.due("prices(" + d[0] + ", " + d[1] + ", 0)", x.prices(d[0], d[1], 0), d[2]);
            }
        });
        Sentence.holds("Terms 4", "; how many can't.", () -> {
            ClaspedFair x = new ClaspedFair();
            // Of 3 and 5: 1, 2, 4, 7. Of 2 and 59: all odd ones below 59.
            int[][] due = {{2, 3, 1}, {3, 5, 4}, {5, 3, 4}, {5, 7, 12}, {2, 59, 29}, {10, 3, 9}};
            for (int[] d : due) {
                Check.due("prices(" + d[0] + ", " + d[1] + ", 1)", x.prices(d[0], d[1], 1), d[2]);
            }
        });
        Sentence.holds("Terms 4", "(without common part; else NONE)", () -> {
            ClaspedFair x = new ClaspedFair();
            for (int what = 0; what <= 1; what++) {
                Check.due("2, 2", x.prices(2, 2, what), -1);
                Check.due("60, 60", x.prices(60, 60, what), -1);
                Check.due("2, 60", x.prices(2, 60, what), -1);
                Check.due("53, 53", x.prices(53, 53, what), -1);
                Check.due("29, 58", x.prices(29, 58, what), -1);
                Check.due("35, 21", x.prices(35, 21, what), -1);
                Check.due("35, 22", x.prices(35, 22, what) > 0, true);
            }
        });
    }

    private static ClaspedFair weights(int... weights) {
        ClaspedFair x = new ClaspedFair();
        for (int w : weights) {
            x.weight(w);
        }
        return x;
    }

    private static void scale() {
        Sentence.holds("Terms 4", "SCALE: up to 5 told weights (1 .. 200)", () -> {
            ClaspedFair x = new ClaspedFair();
            Check.due("0", x.weight(0), -1);
            Check.due("201", x.weight(201), -1);
            Check.due("-2", x.weight(-2), -1);
            Check.due("1", x.weight(1), 1);
            for (int i = 2; i <= 5; i++) {
                Check.due("200", x.weight(200), i);
            }
            Check.due("the sixth", x.weight(5), -1);
            Check.due("801", x.balance(801, 1), 1);
            Check.due("the sixth is not there", x.balance(5, 0), 0);
        });
        Sentence.holds("Terms 4", "BALANCE of v (0 .. 1000)", () -> {
            ClaspedFair x = weights(200, 200, 200, 200, 200);
            for (int what = 0; what <= 1; what++) {
                Check.due("0", x.balance(0, what), 1);
                Check.due("1000", x.balance(1000, what), 1);
                Check.due("999", x.balance(999, what), 0);
                Check.due("-1", x.balance(-1, what), -1);
                Check.due("1001", x.balance(1001, what), -1);
                Check.due("none told, 0", weights().balance(0, what), 1);
                Check.due("none told, 1", weights().balance(1, what), 0);
            }
        });
        Sentence.holds("Terms 4", "whether v can be weighed with weights on both sides; on one", () -> {
            ClaspedFair x = weights(10, 3, 3);
            int[] onBoth = {0, 3, 4, 6, 7, 10, 13, 16};
            int[] onOne = {0, 3, 6, 10, 13, 16};
            for (int v = 0; v <= 20; v++) {
                int due = v;
                Check.due("both sides, " + v, x.balance(v, 0), java.util.Arrays.stream(onBoth).anyMatch(b -> b == due) ? 1 : 0);
                Check.due("one side, " + v, x.balance(v, 1), java.util.Arrays.stream(onOne).anyMatch(b -> b == due) ? 1 : 0);
            }
        });
        Sentence.holds("Terms 4", "the greatest v up to which all from 1 on can be, on both.", () -> {
            Check.due("none told", weights().balance(0, 2), 0);
            Check.due("not even 1", weights(2).balance(0, 2), 0);
            Check.due("1", weights(1).balance(0, 2), 1);
            Check.due("up to a gap", weights(1, 1, 9).balance(0, 2), 2);
            Check.due("3 - 2", weights(2, 3).balance(0, 2), 3);
            Check.due("as many as can be", weights(81, 27, 9, 3, 1).balance(0, 2), 121);
        });
    }

    private static void cold() {
        Sentence.holds("Terms 4", "COLD: from a PERSON along KIN, each day from each who has it to all kin", () -> {
            ClaspedFair x = people(12);
            kin(x, "50 51 52 03 14 3b 42 89");
            int[] due = {1, 4, 6, 7, 7};
            for (int n = 0; n <= 4; n++) {
                Check.due("by day " + n, x.cold(5, n), due[n]);
            }
            Check.due("days", x.cold(5, -1), 3);
            Check.due("of others", x.cold(9, 20), 2);
            Check.due("of one without kin", x.cold(10, 20), 1);
        });
        Sentence.holds("Terms 4", "on how many days new ones get it; how many have it by day n (0 .. 20).", () -> {
            ClaspedFair x = people(12);
            Check.due("no kin", x.cold(0, -1), 0);
            kin(x, "01 12 23 34 45 56 67 78 89 9a ab");
            Check.due("from one end to the other", x.cold(0, -1), 11);
            Check.due("from the midst", x.cold(6, -1), 6);
            Check.due("by day 0", x.cold(0, 0), 1);
            Check.due("by day 1", x.cold(0, 1), 2);
            Check.due("by day 10", x.cold(0, 10), 11);
            Check.due("by day 11", x.cold(0, 11), 12);
            Check.due("by day 20", x.cold(0, 20), 12);
            Check.due("by day 21", x.cold(0, 21), -1);
            Check.due("by day -2", x.cold(0, -2), -1);
        });
    }

    private static void nearest() {
        Sentence.holds("Terms 4", "ALIKE of two PEOPLE: how far all TRAITS are apart, added", () -> {
            ClaspedFair x = new ClaspedFair();
            x.person(0, 0);
            x.person(0, 999);
            x.person(0, 0);
            Check.due("as far as can be", x.alike(0, 1), 4995);
            Check.due("either way", x.alike(1, 0), 4995);
            Check.due("not at all", x.alike(0, 2), 0);
            x.set(0, 0, 5);
            x.set(4, 2, 7);
            Check.due("more and less are added", x.alike(0, 2), 12);
        });
        Sentence.holds("Terms 4", "NEAREST of one: to whom he is nearest (of several the least; NONE).", () -> {
            ClaspedFair x = new ClaspedFair();
            x.person(0, 500);
            Check.due("alone", x.alike(0, -1), -1);
            x.person(0, 999);
            Check.due("there is but one", x.alike(0, -1), 1);
            x.person(0, 490);
            x.person(0, 510);
            Check.due("of two the least", x.alike(0, -1), 2);
            Check.due("to the last one", x.alike(3, -1), 0);
            x.person(0, 501);
            Check.due("the last one", x.alike(0, -1), 4);
        });
    }

    private static void duePens(int k, int fullest, int level, int... herds) {
        ClaspedFair x = new ClaspedFair();
        for (int h : herds) {
            x.herd(h);
        }
        Check.due(java.util.Arrays.toString(herds) + " into " + k, x.pens(k, 0), fullest);
        Check.due("level of " + java.util.Arrays.toString(herds) + " into " + k, x.pens(k, 1), level);
    }

    private static void pens() {
        Sentence.holds("Terms 4", "PENS, up to 7 told herds (1 .. 30) into k (1 .. 4) pens", () -> {
            ClaspedFair x = new ClaspedFair();
            Check.due("0", x.herd(0), -1);
            Check.due("31", x.herd(31), -1);
            Check.due("1", x.herd(1), 1);
            for (int i = 2; i <= 7; i++) {
                Check.due("30", x.herd(30), i);
            }
            Check.due("the eighth", x.herd(1), -1);
            Check.due("into 1", x.pens(1, 0), 181);
            Check.due("into 4", x.pens(4, 0), 60);
            Check.due("into 0", x.pens(0, 0), -1);
            Check.due("into 5", x.pens(5, 0), -1);
        });
        Sentence.holds("Terms 4", "the least of what the fullest has, if shared best", () -> {
            duePens(1, 0, 0);
            duePens(4, 0, 0);
            duePens(1, 30, 0, 30);
            duePens(2, 30, 30, 30);
            duePens(2, 9, 0, 5, 4, 3, 3, 3);
            duePens(4, 60, 30, 30, 30, 30, 30, 30, 30, 1);
        });
        Sentence.holds("Terms 4", "LEVEL: how far the fullest and the emptiest are apart then at least (of all sharings with"
                + " that fullest).", () -> {
            duePens(4, 5, 5, 5, 4, 3);
            duePens(3, 20, 16, 20, 1, 2, 3, 2);
            duePens(3, 20, 15, 20, 5, 5);
            // 10, 8, 8 and 10, 9, 7 have the same fullest: the more level one counts.
            duePens(3, 10, 2, 10, 4, 4, 5, 3);
        });
    }

    private static void leftAndSigns() {
        Sentence.holds("Terms 4", "LEFT of a PERSON: which TRAIT he has most of (of several the least)", () -> {
            ClaspedFair x = new ClaspedFair();
            x.person(0, 0);
            Check.due("all alike", x.left(0, 0), 0);
            x.set(4, 0, 1);
            Check.due("the last", x.left(0, 0), 4);
            x.set(2, 0, 1);
            Check.due("of two the least", x.left(0, 0), 2);
            x.set(1, 0, 2);
            Check.due("the second", x.left(0, 0), 1);
            x.person(0, 999);
            Check.due("whatever the next one has", x.left(0, 0), 1);
        });
        Sentence.holds("Terms 4", "of how many TRAITS he has most of all (alike others: not).", () -> {
            ClaspedFair x = new ClaspedFair();
            x.person(0, 0);
            Check.due("alone", x.left(0, 1), 5);
            x.person(0, 0);
            Check.due("alike", x.left(0, 1), 0);
            x.set(4, 1, 1);
            Check.due("one more of one", x.left(1, 1), 1);
            Check.due("not the other", x.left(0, 1), 0);
        });
        Sentence.holds("Terms 4", "SIGNS: rows of n (1 .. 20) fingers up or down, so that up fingers stand in rows of 2 at"
                + " least: in how many ways.", () -> {
            ClaspedFair x = new ClaspedFair();
            Check.due("0", x.signs(0), -1);
            Check.due("21", x.signs(21), -1);
            for (int n = 1; n <= 20; n++) {
                Check.due("signs(" + n + ")", x.signs(n), rowsWithoutLoneUp(n));
            }
        });
    }

    private static int rowsWithoutLoneUp(int n) {
        int rows = 0;
        for (int up = 0; up < 1 << n; up++) {
            if ((up & ~(up << 1) & ~(up >> 1)) == 0) {
                rows++;
            }
        }
        return rows;
    }

    private static void dueGame(int row, int place, int many, int... rows) {
        ClaspedFair x = new ClaspedFair();
        for (int r : rows) {
            x.row(r);
        }
        int[] due = {row, place, many};
        for (int what = 0; what <= 2; what++) {
            Check.due("game(" + what + ") of " + java.util.Arrays.toString(rows), x.game(what), due[what]);
        }
    }

    /** The nimber of each row by its turns: the least number that no turn leads to. */
    private static int[] nimbers() {
        int[] nimber = new int[21];
        for (int n = 1; n <= 20; n++) {
            boolean[] led = new boolean[64];
            for (int many = 1; many <= 2 && many <= n; many++) {
                for (int place = 0; place + many <= n; place++) {
                    led[nimber[place] ^ nimber[n - place - many]] = true;
                }
            }
            while (led[nimber[n]]) {
                nimber[n]++;
            }
        }
        return nimber;
    }

    private static int[] goodTurn(int[] nimber, int... rows) {
        int all = 0;
        for (int r : rows) {
            all ^= nimber[r];
        }
        for (int r = 0; r < rows.length; r++) {
            for (int place = 0; place < rows[r]; place++) {
                for (int many = 1; many <= 2 && place + many <= rows[r]; many++) {
                    if ((all ^ nimber[rows[r]] ^ nimber[place] ^ nimber[rows[r] - place - many]) == 0) {
                        return new int[] {r, place, many};
                    }
                }
            }
        }
        return new int[] {-1, -1, -1};
    }

    private static void game() {
        Sentence.holds("Terms 4", "GAME of up to 6 told rows of hands (1 .. 20)", () -> {
            ClaspedFair x = new ClaspedFair();
            Check.due("0", x.row(0), -1);
            Check.due("21", x.row(21), -1);
            Check.due("20", x.row(20), 1);
            Check.due("20", x.row(20), 2);
            Check.due("1", x.row(1), 3);
            Check.due("1", x.row(1), 4);
            Check.due("1", x.row(1), 5);
            Check.due("2", x.row(2), 6);
            Check.due("the seventh", x.row(3), -1);
            // With the seventh there would be no good turn; without it one makes 19 of the first row.
            Check.due("the row", x.game(0), 0);
            Check.due("the place", x.game(1), 0);
            Check.due("how many", x.game(2), 1);
        });
        Sentence.holds("Terms 4", "two by turns take one hand or two side by side out of one row (which parts it); who takes"
                + " the last one wins", () -> {
            dueGame(0, 0, 1, 1);
            dueGame(0, 0, 2, 2);
            dueGame(0, 1, 1, 3);
            dueGame(0, 1, 2, 4);
            dueGame(0, 9, 2, 20);
            dueGame(-1, -1, -1, 20, 20);
            dueGame(-1, -1, -1, 20, 20, 20, 20, 20, 20);
            int[] nimber = nimbers();
            for (int a = 1; a <= 20; a++) {
                int[] alone = goodTurn(nimber, a);
                dueGame(alone[0], alone[1], alone[2], a);
                for (int b = 1; b <= 20; b++) {
                    int[] turn = goodTurn(nimber, a, b);
                    dueGame(turn[0], turn[1], turn[2], a, b);
                }
            }
            dueGame(-1, -1, -1, 1, 2, 3);
        });
        Sentence.holds("Terms 4", "the row (of several the first), from which place (from 0; the least), how many (the fewest)"
                + " who begins well takes.", () -> {
            dueGame(0, 0, 1, 1, 1, 1);
            dueGame(1, 0, 1, 1, 2);
            dueGame(0, 0, 2, 3, 1);
            dueGame(0, 0, 1, 2, 1);
            dueGame(5, 0, 1, 1, 1, 1, 1, 1, 2);
            // The last hand of the four would do as well as the first.
            dueGame(0, 0, 1, 4, 3);
        });
    }

    private static void undo() {
        Sentence.holds("Terms 4", "the latest DAY, BARGAIN, CLASP, HAND not undone yet goes back (STATE, THE BOOK, too)",
                () -> {
            ClaspedFair x = market("asks 0;holds 500;");
            Check.dueText(x, 1, "on 0 person 1 horse 0 at 10 grip 1;", 1);
            Check.dueText(x, 2, "on 0 glove 0;on 1 bare 0;on 1 cold 0 0 9;on 1 pay 0 9;", 4);
            String[] was = new String[5];
            was[0] = withoutUndone(x);
            x.days(1);
            was[1] = withoutUndone(x);
            x.hand(0, 0);
            was[2] = withoutUndone(x);
            x.clasp(0, 1, 5);
            was[3] = withoutUndone(x);
            x.buys(0, 0, 5, 5);
            was[4] = withoutUndone(x);
            x.days(1);
            for (int i = 4; i >= 0; i--) {
                Check.due("undo", x.undo(), true);
                Check.due("as before " + i, withoutUndone(x).equals(was[i]), true);
                Check.due("to be undone", x.look(11), i);
            }
            Check.due("nothing is left", x.undo(), false);
        });
        Sentence.holds("Terms 4", "6 are kept", () -> {
            ClaspedFair x = market("");
            x.days(5);
            Check.due("five", x.look(11), 5);
            x.days(1);
            Check.due("six", x.look(11), 6);
            x.days(1);
            Check.due("no more than six", x.look(11), 6);
            x.hand(0, 1);
            for (int i = 0; i < 6; i++) {
                Check.due("undo " + i, x.undo(), true);
            }
            Check.due("the seventh", x.undo(), false);
            Check.due("two days are left", x.look(4), 2);
            Check.due("HAND", x.of(0, 6), 0);
        });
        Sentence.holds("Terms 4", "whatever else is told but THE LAW, KIN and what is told for thought (CAME, COULD, SCALE,"
                + " PENS, GAME) (the taking of THE IMAGE does not) forgets them.", () -> {
            ClaspedFair x = market("");
            x.days(1);
            Check.dueText(x, 0, "asks 0;", 1);
            Check.dueText(x, 3, "person 0 kin 1;", 1);
            for (int v : new int[] {1, -1}) {
                x.told(v, 0);
                x.number(v);
                x.weight(v);
                x.herd(v);
                x.row(v);
            }
            x.image(true);
            x.feed(0, 0, 0, 0, 0);
            x.end(0);
            Check.due("none of these", x.look(11), 1);
            for (int i = 0; i < 8; i++) {
                x.days(1);
                tellElse(x, i);
                Check.due("forgotten by " + i, x.look(11), 0);
                Check.due("not to be undone after " + i, x.undo(), false);
            }
        });
    }

    private static void tellElse(ClaspedFair x, int i) {
        switch (i) {
            case 0: x.state(x.look(6)); break;
            case 1: x.person(0, 0); break;
            case 2: x.horse(0, 0, 0); break;
            case 3: x.set(0, 0, x.of(0, 0)); break;
            case 4: x.set(7, 0, 0); break;
            case 5: x.text(1); break;
            case 6: x.text(2); break;
            default: x.image(false); break;
        }
    }

    /** All that is seen, but how much can be undone. */
    private static String withoutUndone(ClaspedFair x) {
        String[] seen = Check.seen(x).split(" ");
        seen[11] = "";
        return String.join(" ", seen);
    }

    private static void image() {
        Sentence.holds("Terms 4", "THE IMAGE: all that is and was told but the TAPE, fault() and what can be undone (nothing"
                + " then), as it was when it was taken", () -> {
            ClaspedFair x = market("asks 0;");
            Check.dueText(x, 1, "on 5 person 1 horse 0 at 10 grip 1;", 1);
            Check.dueText(x, 2, "on 5 glove 0;on 6 bare 0;", 2);
            Check.dueText(x, 3, "person 0 kin 1;", 1);
            x.told(0, 3);
            x.number(1);
            x.weight(1);
            x.herd(5);
            x.row(5);
            x.days(2);
            x.clasp(0, 1, 5);
            x.state(77);
            x.image(true);
            String was = Check.seen(x);
            changeAll(x);
            Check.dueFault(x, 2, "on 0", 1, 4);
            Check.write(x, "asks 7;");
            Check.due("gone back", x.image(false), true);
            Check.due("fault stays", x.fault(0), 1);
            Check.due("its place stays", x.fault(1), 4);
            Check.due("the law", x.asks(1, 0, 1), 0);
            Check.due("the TAPE stays", x.text(0), 1);
            Check.due("and is the text", x.asks(1, 0, 1), 7);
            Check.due("nothing to undo", x.undo(), false);
            x.image(false);
            Check.due("the law of before", x.asks(1, 0, 1), 0);
            Check.due("all as it was", Check.seen(x).equals(was), true);
        });
        Sentence.holds("Terms 4", "as it was when it was taken", () -> {
            ClaspedFair x = market("holds 0;");
            x.clasp(0, 1, 9);
            x.told(0, 1);
            x.number(1);
            x.weight(7);
            x.herd(7);
            x.row(3);
            x.image(true);
            String was = withoutUndone(x);
            // Other lines and other numbers come into the places of those that were.
            x.undo();
            x.clasp(1, 0, 2);
            x.told(-1, 0);
            x.told(4, 5);
            x.number(-1);
            x.number(0);
            x.weight(-1);
            x.weight(1);
            x.herd(-1);
            x.herd(9);
            x.row(-1);
            x.row(1);
            Check.due("another one", withoutUndone(x).equals(was), false);
            x.image(false);
            Check.due("as it was", withoutUndone(x).equals(was), true);
            Check.due("7 can be weighed", x.balance(7, 0), 1);
            Check.due("1 can't", x.balance(1, 0), 0);
            Check.due("the herd", x.pens(1, 0), 7);
            Check.due("the row's turn", x.game(1), 1);
            Check.due("the number", x.could(), 0);
        });
        Sentence.holds("Terms 4", "gone back to it may be more than once.", () -> {
            ClaspedFair x = market("");
            x.image(true);
            String was = Check.seen(x);
            for (int i = 0; i < 4; i++) {
                changeAll(x);
                Check.due("gone back", x.image(false), true);
                Check.due("as it was", Check.seen(x).equals(was), true);
            }
            x.days(3);
            x.image(true);
            x.days(3);
            Check.due("gone back", x.image(false), true);
            Check.due("to the latest taken", x.look(4), 3);
        });
    }

    private static void changeAll(ClaspedFair x) {
        x.person(9, 9);
        x.horse(1, 9, 9);
        x.set(0, 0, 9);
        x.set(5, 1, 9);
        x.set(6, 0, 9);
        x.set(7, 0, 9);
        x.hand(0, 2);
        x.hand(0, 0);
        Check.dueText(x, 0, "asks 9;passes 9;holds 1000;", 3);
        Check.dueText(x, 1, "", 0);
        Check.dueText(x, 2, "on 9 bare 0;", 1);
        Check.dueText(x, 3, "", 0);
        x.told(4, 5);
        x.number(8);
        x.weight(2);
        x.herd(9);
        x.row(1);
        x.days(9);
        x.buys(1, 0, 9, 9);
        x.clasp(0, 1, 9);
        x.state(MIN + MAX);
    }
}
