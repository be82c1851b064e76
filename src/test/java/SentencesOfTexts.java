/** What the document says under term 2: the TEXTS, their FAULTS, and what THE LAW tells. */
final class SentencesOfTexts {
    private static final String LAST_OF_EIGHT = "((((((((1=1))))))))";

    private SentencesOfTexts() {
    }

    static void all() {
        law();
        conditions();
        sums();
        otherTexts();
        tokens();
        faultsOfPlace();
        faultsBeyond();
        faultsTooMany();
        tells();
        words();
    }

    /** Three PEOPLE, two HORSES. */
    private static ClaspedFair market() {
        ClaspedFair x = new ClaspedFair();
        x.person(1000, 100);
        x.person(500, 300);
        x.person(700, 700);
        x.horse(0, 400, 5);
        x.horse(1, 50, 9);
        return x;
    }

    private static void dueLaw(String text) {
        Check.dueText(market(), 0, text, text.length() - text.replace(";", "").length());
    }

    private static void dueFault(int k, String text, int fault, int place) {
        Check.dueFault(market(), k, text, fault, place);
    }

    /** Whether a condition is so. */
    private static void dueWhen(String condition, boolean so) {
        ClaspedFair x = market();
        Check.dueText(x, 0, "asks 1 when " + condition + ";asks 2;", 2);
        Check.due(condition, x.asks(1, 0, 3), so ? 1 : 2);
    }

    private static void dueSum(String sum, int asks) {
        ClaspedFair x = market();
        Check.dueText(x, 0, "asks " + sum + ";", 1);
        Check.due(sum, x.asks(1, 0, 3), asks);
    }

    private static void law() {
        Sentence.holds("Terms 2", "TEXTS (empty at first).", () -> {
            ClaspedFair x = new ClaspedFair();
            for (int k = 0; k <= 3; k++) {
                Check.due("lines of " + k, x.look(7 + k), 0);
            }
        });
        Sentence.holds("Terms 2", "0 THE LAW = {(passes | holds | asks) E [when B] ;}.", () -> {
            dueLaw("");
            dueLaw(" \n");
            dueLaw("passes 1;");
            dueLaw("holds 1 when 1=1;asks 1;");
            dueFault(0, "when 1=1;", 1, 0);
            dueFault(0, "1;", 1, 0);
            dueFault(0, "passes;", 1, 6);
            dueFault(0, "passes 1", 1, 8);
            dueFault(0, "passes 1 when;", 1, 13);
            dueFault(0, "passes 1 when 1=1", 1, 17);
            dueFault(0, "passes 1 when 1=1 when 1=1;", 1, 18);
            dueFault(0, "passes 1;;", 1, 9);
        });
    }

    private static void conditions() {
        Sentence.holds("Terms 2", "B = A {or A}.", () -> {
            dueWhen("1=2", false);
            dueWhen("1=2 or 1=1", true);
            dueWhen("1=2 or 1=3 or 1=1", true);
            dueWhen("1=2 or 1=3 or 1=4", false);
            dueFault(0, "asks 1 when or 1=1;", 1, 12);
            dueFault(0, "asks 1 when 1=1 or;", 1, 18);
            dueFault(0, "asks 1 when 1=1 or or 1=1;", 1, 19);
        });
        Sentence.holds("Terms 2", "A = C {and C}.", () -> {
            dueWhen("1=1 and 1=1", true);
            dueWhen("1=1 and 1=1 and 1=2", false);
            dueWhen("1=1 or 1=1 and 1=2", true);
            dueWhen("1=2 and 1=1 or 1=1", true);
            dueFault(0, "asks 1 when and 1=1;", 1, 12);
            dueFault(0, "asks 1 when 1=1 and;", 1, 19);
            dueFault(0, "asks 1 when 1=1 and or 1=1;", 1, 20);
        });
        Sentence.holds("Terms 2", "C = E (< | = | >) E | not C | ( B ).", () -> {
            dueWhen("1<1", false);
            dueWhen("1<2", true);
            dueWhen("1>1", false);
            dueWhen("2>1", true);
            dueWhen("1=1", true);
            dueWhen("2=1", false);
            dueWhen("not 1=1", false);
            dueWhen("not not 1=1", true);
            dueWhen("not 1=2 and 1=2", false);
            dueWhen("not (1=2 and 1=2)", true);
            dueWhen("(1=2 or 1=1) and 1=2", false);
            dueWhen("1=2 or (1=1)", true);
            dueWhen("1=1 and (1=2)", false);
            dueWhen("1<2 and 1=1", true);
            dueWhen("2>1 and 1=1", true);
            dueWhen("1<2 and 2>1", true);
            dueWhen("not 1<2", false);
            dueWhen("not 2>1", false);
            dueWhen("not 2<1 and not 1>2", true);
            dueFault(0, "asks 1 when 1;", 1, 13);
            dueFault(0, "asks 1 when 1=1=1;", 1, 15);
            dueFault(0, "asks 1 when =1;", 1, 12);
            dueFault(0, "asks 1 when 1=;", 1, 14);
            dueFault(0, "asks 1 when not;", 1, 15);
            dueFault(0, "asks 1 when ();", 1, 13);
            dueFault(0, "asks 1 when (1=1;", 1, 16);
            dueFault(0, "asks 1 when 1=1);", 1, 15);
            dueFault(0, "asks 1 when (1)=1;", 1, 14);
        });
    }

    private static void sums() {
        Sentence.holds("Terms 2", "E = T {(+ | -) T}.", () -> {
            dueSum("7", 7);
            dueSum("7+2", 9);
            dueSum("7-2-3", 2);
            dueSum("7-2+3", 8);
            dueFault(0, "asks +1;", 1, 5);
            dueFault(0, "asks -1;", 1, 5);
            dueFault(0, "asks 1+;", 1, 7);
            dueFault(0, "asks 1+-1;", 1, 7);
            dueFault(0, "asks (1);", 1, 5);
        });
        Sentence.holds("Terms 2", "T = U {* U | / NUMBER}.", () -> {
            dueSum("2*3*4", 24);
            dueSum("7/2*2", 6);
            dueSum("7*2/2", 7);
            dueSum("1+2*3-8/4", 5);
            dueFault(0, "asks 1*;", 1, 7);
            dueFault(0, "asks *1;", 1, 5);
            dueFault(0, "asks 1/;", 1, 7);
            dueFault(0, "asks 1/grip;", 1, 7);
            dueFault(0, "asks 1//1;", 1, 7);
        });
        Sentence.holds("Terms 2", "U = NUMBER | trait | own | other | grip | price | worth | spirit | shook | purse | kin"
                + " | day.", () -> {
            for (String word : "0 9999 trait own other grip price worth spirit shook purse kin day".split(" ")) {
                dueLaw("passes " + word + ";holds " + word + ";asks " + word + ";");
                dueLaw("passes 1*" + word + "/1+" + word + " when " + word + "=" + word + ";");
            }
            for (String word : "passes holds asks when or and not on person horse at glove bare sling pay cold".split(" ")) {
                dueFault(0, "passes " + word + ";", 1, 7);
            }
        });
    }

    private static void otherTexts() {
        Sentence.holds("Terms 2", "(DAY 0 .. 999, at 0 .. 9999, grip 1 .. 9: he would buy it.)", () -> {
            Check.dueText(market(), 1, "on 0 person 1 horse 0 at 0 grip 1;", 1);
            Check.dueText(market(), 1, "on 999 person 1 horse 0 at 9999 grip 9;", 1);
            dueFault(1, "on 1000 person 1 horse 0 at 0 grip 1;", 2, 3);
            dueFault(1, "on 0 person 1 horse 0 at 10000 grip 1;", 1, 25);
            dueFault(1, "on 0 person 1 horse 0 at 0 grip 0;", 2, 32);
            dueFault(1, "on 0 person 1 horse 0 at 0 grip 10;", 2, 32);
        });
        Sentence.holds("Terms 2", "1 FAIR = {on DAY person PERSON horse HORSE at N grip N ;}", () -> {
            Check.dueText(market(), 1, "", 0);
            // A line cut off behind each of its parts: what is wanted there is not.
            String line = "on 0 person 1 horse 0 at 0 grip 1;";
            for (int cut : new int[] {2, 4, 11, 13, 19, 21, 24, 26, 31, 33}) {
                dueFault(1, line.substring(0, cut), 1, cut);
                dueFault(1, line.substring(0, cut) + " +", 1, cut + 1);
            }
            dueFault(1, "person 1 horse 0 at 0 grip 1;", 1, 0);
            dueFault(1, line + ";", 1, 34);
        });
        Sentence.holds("Terms 2", "(pay 1 .. 999; TRAIT 0 .. 4, cold 1 .. 99.)", () -> {
            Check.dueText(market(), 2, "on 0 pay 0 1;on 0 pay 0 999;on 0 cold 0 0 1;on 0 cold 0 4 99;", 4);
            dueFault(2, "on 0 pay 0 0;", 2, 11);
            dueFault(2, "on 0 pay 0 1000;", 2, 11);
            dueFault(2, "on 0 cold 0 5 1;", 2, 12);
            dueFault(2, "on 0 cold 0 0 0;", 2, 14);
            dueFault(2, "on 0 cold 0 0 100;", 2, 14);
        });
        Sentence.holds("Terms 2", "2 HABITS = {on DAY (glove PERSON | bare PERSON | sling PERSON | pay PERSON N | cold"
                + " PERSON TRAIT N) ;}", () -> {
            Check.dueText(market(), 2, "", 0);
            Check.dueText(market(), 2, "on 999 glove 0;on 0 bare 1;on 0 sling 2;", 3);
            dueFault(2, "on 1000 glove 0;", 2, 3);
            for (String line : new String[] {"on 0 glove 0;", "on 0 bare 0;", "on 0 sling 0;"}) {
                dueFault(2, line.replace("0;", "0 1;"), 1, line.length());
                dueFault(2, line.replace("0;", ";"), 1, line.length() - 2);
            }
            dueFault(2, "on 0 pay 0;", 1, 10);
            dueFault(2, "on 0 pay 0 1 1;", 1, 13);
            dueFault(2, "on 0 cold 0 0;", 1, 13);
            dueFault(2, "on 0 cold 0 0 1 1;", 1, 16);
            dueFault(2, "on 0 person 0;", 1, 5);
            dueFault(2, "on 0;", 1, 4);
        });
        Sentence.holds("Terms 2", "3 KIN = {person PERSON kin PERSON ;} (either way; unlike.)", () -> {
            ClaspedFair x = market();
            Check.dueText(x, 3, "person 2 kin 0;", 1);
            Check.due("kin of 0", x.of(0, 8), 1 << 2);
            Check.due("kin of 2", x.of(2, 8), 1);
            Check.due("kin of 1", x.of(1, 8), 0);
            Check.dueFault(x, 3, "person 1 kin 1;", 2, 13);
            Check.dueFault(x, 3, "person 1 kin;", 1, 12);
            Check.dueFault(x, 3, "person 1 person 2;", 1, 9);
            Check.dueFault(x, 3, "person 1 kin 2 kin 0;", 1, 15);
            Check.dueText(x, 3, "", 0);
            Check.due("none then", x.of(0, 8), 0);
        });
        Sentence.holds("Terms 2", "16 lines of each at most.", () -> {
            Check.dueText(market(), 0, "asks 1;".repeat(16), 16);
            // A line of FAIR has 25 bytes at least: sixteen just go onto the TAPE, a 17th never does.
            Check.dueText(market(), 1, "on1person0horse0at1grip1;".repeat(16), 16);
            Check.dueText(market(), 2, "on 1bare 1;".repeat(16), 16);
            Check.dueText(market(), 3, "person 0kin 1;".repeat(16), 16);
            dueFault(0, "asks 1;".repeat(17), 3, 112);
            dueFault(2, "on 1bare 1;".repeat(17), 3, 176);
            dueFault(3, "person 0kin 1;".repeat(17), 3, 224);
        });
    }

    private static void tokens() {
        Sentence.holds("Terms 2", "letters as many as stand together are KEYWORDS (those told here for that text) or none",
                () -> {
            dueLaw("passes 1when 1=1and not 1=2or 1=1;");
            for (String none : new String[] {"p", "passe", "passess", "passesholds", "Passes", "PASSES", "passeS", "passesa",
                "passesz", "passesA", "passesZ"}) {
                dueFault(0, none + " 1;", 1, 0);
            }
            dueFault(0, "on 0 glove 0;", 1, 0);
            dueFault(1, "on 0 glove 0;", 1, 5);
            dueFault(2, "on 0 person 0 horse 0 at 0 grip 1;", 1, 5);
            dueFault(3, "on 0 glove 0;", 1, 0);
            dueFault(3, "passes 1;", 1, 0);
        });
        Sentence.holds("Terms 2", "digits as many as stand together NUMBERS of 1 to 4 digits or none", () -> {
            dueSum("0", 0);
            dueSum("9999", 9999);
            dueSum("0007", 7);
            dueFault(0, "asks 00000;", 1, 5);
            dueFault(0, "asks 12345;", 1, 5);
            dueFault(0, "asks 1 2;", 1, 7);
            Check.dueText(market(), 3, "person0kin0001;", 1);
            dueFault(3, "person0kin00001;", 1, 10);
        });
        Sentence.holds("Terms 2", "; + - * / ( ) < = > .", () -> {
            dueLaw("asks 1+1-1*1/1 when(1<1)or 1=1 or 1>1;");
            for (char sign : "!\"#$%&',.:?@[\\]^_`{|}~".toCharArray()) {
                dueFault(0, "asks 1" + sign + ";", 1, 6);
                dueFault(0, sign + "asks 1;", 1, 0);
            }
        });
        Sentence.holds("Terms 2", "Blanks (32, 10) between.", () -> {
            dueLaw("\n \n asks\n1 \n;\n ");
            for (char sign : new char[] {0, 9, 11, 12, 13, 31, 127, 128, 160, 255}) {
                dueFault(0, "asks" + sign + "1;", 1, 4);
                dueFault(0, "asks 1;" + sign, 1, 7);
            }
        });
        Sentence.holds("Terms 2", "Ints, which wrap; / goes towards 0.", () -> {
            dueSum("8192*8192*64+3", 3);
            dueSum("8192*8192*32+1", 0);
            dueSum("8192*8192*32-1", 9999);
            dueWhen("8192*8192*32<0", true);
            dueWhen("8192*8192*32-1>0", true);
            // -2147483648 / 7 is -306783378 and some more.
            dueWhen("8192*8192*32/7+9999*9999*3+9999*684+4059=0", true);
            dueSum("7/8", 0);
        });
    }

    private static void faultsOfPlace() {
        Sentence.holds("Terms 2", "FAULTS, the first by its place", () -> {
            dueFault(0, "asks 1/0 + ;", 2, 7);
            dueFault(0, "asks + 1/0;", 1, 5);
            dueFault(0, "asks 1 when (((((((((1/0=1;", 3, 20);
            dueFault(1, "on 1000 person 9 horse 9 at 0 grip 0", 2, 3);
            dueFault(1, "on 0 person 9 glove", 2, 12);
            dueFault(2, "on 0 pay 9 0;", 2, 9);
            dueFault(3, "person 9 kin 9;", 2, 7);
            dueFault(3, "person 0 kin 1;person 0 kin 0;person;", 2, 28);
        });
        Sentence.holds("Terms 2", "at one place the least", () -> {
            // The 17th line's place, what can't stand there: 1, not 3.
            dueFault(0, "asks 1;".repeat(16) + "when", 1, 112);
            dueFault(0, "asks 1;".repeat(16) + "(", 1, 112);
            // A ninth ( where none can stand: 1, not 3.
            dueFault(0, "asks 1 when ((((((((1(", 1, 21);
            dueFault(0, "asks 1 when ((((((((1 not", 1, 22);
            // Five digits are no NUMBER: 1, not 2.
            dueFault(0, "asks 1/00000;", 1, 7);
            dueFault(3, "person 00009 kin 0;", 1, 7);
        });
        Sentence.holds("Terms 2", "1 what can't stand there (the end: the text's length)", () -> {
            dueFault(0, "asks", 1, 4);
            dueFault(0, "asks  \n ", 1, 8);
            dueFault(0, "asks 1 when 1=1 and", 1, 19);
            dueFault(1, "on 0", 1, 4);
            dueFault(2, "on 0 \n", 1, 6);
            dueFault(3, "person", 1, 6);
            dueFault(0, "x", 1, 0);
            dueFault(0, " x", 1, 1);
            dueFault(0, "asks " + "1+".repeat(197) + "1", 1, 400);
        });
    }

    private static void faultsBeyond() {
        Sentence.holds("Terms 2", "2 (at the NUMBER) a part by 0", () -> {
            dueFault(0, "asks 1/0;", 2, 7);
            dueFault(0, "asks 1/ \n0;", 2, 9);
            dueFault(0, "asks 1/0000;", 2, 7);
            dueFault(0, "asks 0*0/1/0;", 2, 11);
            dueFault(0, "asks 1 when 1/0=1;", 2, 14);
            dueFault(0, "asks 1 when 1=1/0;", 2, 16);
            dueLaw("asks 0/1;");
            dueLaw("asks 1*0;");
        });
        Sentence.holds("Terms 2", "one beyond its bounds", () -> {
            dueFault(1, "on 9999 person 0 horse 0 at 0 grip 1;", 2, 3);
            dueFault(1, "on 0 person 0 horse 0 at 0 grip 9999;", 2, 32);
            dueFault(2, "on 1000 bare 0;", 2, 3);
            dueFault(2, "on 0 pay 0 1000;", 2, 11);
            dueFault(2, "on 0 pay 0 0000;", 2, 11);
            dueFault(2, "on 0 cold 0 9 1;", 2, 12);
            dueFault(2, "on 0 cold 0 4 100;", 2, 14);
        });
        Sentence.holds("Terms 2", "a PERSON, a HORSE that there is not", () -> {
            dueFault(1, "on 0 person 3 horse 0 at 0 grip 1;", 2, 12);
            dueFault(1, "on 0 person 2 horse 2 at 0 grip 1;", 2, 20);
            for (String habit : new String[] {"glove 3", "bare 3", "sling 3", "pay 3 1", "cold 3 0 1"}) {
                dueFault(2, "on 0 " + habit + ";", 2, 6 + habit.indexOf(' '));
            }
            dueFault(3, "person 3 kin 0;", 2, 7);
            dueFault(3, "person 0 kin 3;", 2, 13);
            ClaspedFair none = new ClaspedFair();
            Check.dueFault(none, 2, "on 0 bare 0;", 2, 10);
            Check.dueFault(none, 3, "person 0 kin 1;", 2, 7);
            none.person(0, 0);
            Check.dueText(none, 2, "on 0 bare 0;", 1);
            Check.dueFault(none, 3, "person 0 kin 1;", 2, 13);
            Check.dueFault(none, 1, "on 0 person 0 horse 0 at 0 grip 1;", 2, 20);
            none.person(0, 0);
            Check.dueText(none, 3, "person 0 kin 1;", 1);
        });
        Sentence.holds("Terms 2", "the same PERSON again (of KIN)", () -> {
            for (int p = 0; p < 3; p++) {
                dueFault(3, "person " + p + " kin " + p + ";", 2, 13);
                dueFault(3, "person " + p + " kin 000" + p + ";", 2, 13);
            }
            Check.dueText(market(), 3, "person 0 kin 1;person 0 kin 1;person 1 kin 0;", 3);
        });
    }

    private static void faultsTooMany() {
        Sentence.holds("Terms 2", "3 (at its KEYWORD) the 17th line of a text", () -> {
            dueFault(0, "asks 1;".repeat(16) + "\n holds 1/0;", 3, 114);
            dueFault(0, "asks 1;".repeat(16) + "passes", 3, 112);
            dueFault(2, "on 1bare 1;".repeat(16) + " on", 3, 177);
            dueFault(3, "person 0kin 1;".repeat(16) + " person 9", 3, 225);
            Check.dueText(market(), 0, "asks 1;".repeat(16) + "\n \n", 16);
        });
        Sentence.holds("Terms 2", "(at it) the 9th ( or not that is open", () -> {
            dueWhen(LAST_OF_EIGHT, true);
            dueWhen("not ".repeat(8) + "1=1", true);
            dueWhen("not(".repeat(4) + "1=1" + ")".repeat(4), true);
            dueFault(0, "asks 1 when (" + LAST_OF_EIGHT + ");", 3, 20);
            dueFault(0, "asks 1 when " + "not ".repeat(9) + "1=1;", 3, 44);
            dueFault(0, "asks 1 when " + "not(".repeat(4) + "not 1=1" + ")".repeat(4) + ";", 3, 28);
            dueFault(0, "asks 1 when " + "(not ".repeat(4) + "(1=1)" + ")".repeat(4) + ";", 3, 32);
            // What is closed, or whose C is at its end, is not open any more.
            dueWhen(LAST_OF_EIGHT + " and " + LAST_OF_EIGHT, true);
            dueWhen("(1=1)and ".repeat(9) + "1=1", true);
            dueWhen("not 1=2 and ".repeat(9) + "1=1", true);
            dueWhen("(((((((1=1 and not 1=2 and not 1=2)))))))", true);
            dueFault(0, "asks 1 when 1=1 and " + "(".repeat(8) + "1=1 and not 1=2", 3, 36);
        });
    }

    private static void tells() {
        Sentence.holds("Terms 2", "E of the first line with that word whose B is so, or that has none", () -> {
            ClaspedFair x = market();
            Check.dueText(x, 0, "passes 1 when trait=4;asks 9;passes 2 when trait>1;passes 3;passes 4;", 5);
            int[] due = {3, 3, 2, 2, 1};
            for (int t = 0; t <= 4; t++) {
                Check.due("trait " + t, x.passes(0, 1, 1, t), due[t]);
            }
            Check.due("asks", x.asks(1, 0, 1), 9);
        });
        Sentence.holds("Terms 2", "(none: passes: 20 times grip, holds: 100 less 10 times shook, asks: worth less 10 times"
                + " grip)", () -> {
            ClaspedFair x = market();
            for (int grip = 1; grip <= 9; grip += 8) {
                Check.due("passes", x.passes(0, 1, grip, 4), 20 * grip);
                Check.due("holds", x.holds(0, 1, grip), 100);
                Check.due("asks", x.asks(1, 0, grip), 400 - 10 * grip);
            }
            Check.due("asks, not below 0", x.asks(0, 1, 9), 0);
            x.hand(2, 1);
            for (int shook = 1; shook <= 12; shook++) {
                x.clasp(1, 2, 1);
                Check.due("holds of 1", x.holds(0, 1, 1), Math.max(0, 100 - 10 * shook));
            }
            Check.due("holds of 0", x.holds(1, 0, 1), 100);
            Check.dueText(x, 0, "passes 1 when 1=2;holds 1 when 1=2;asks 1 when 1=2;", 3);
            Check.due("no line is so", x.passes(0, 1, 2, 4), 40);
            Check.due("no line is so", x.holds(1, 0, 1), 100);
            Check.due("no line is so", x.asks(1, 0, 1), 390);
        });
        Sentence.holds("Terms 2", "passes, holds held to 0 .. 1000, asks to 0 .. 9999", () -> {
            ClaspedFair x = market();
            int[][] due = {{0, 0, 0}, {1, 1, 1}, {999, 999, 999}, {1000, 1000, 1000}, {1001, 1000, 1001},
                {9998, 1000, 9998}, {9999, 1000, 9999}};
            for (int[] d : due) {
                Check.dueText(x, 0, "passes " + d[0] + ";holds " + d[0] + ";asks " + d[0] + ";", 3);
                Check.due("passes " + d[0], x.passes(0, 1, 1, 0), d[1]);
                Check.due("holds " + d[0], x.holds(0, 1, 1), d[1]);
                Check.due("asks " + d[0], x.asks(1, 0, 1), d[2]);
            }
            Check.dueText(x, 0, "passes 0-1;holds 0-1;asks 0-1;", 3);
            Check.due("passes", x.passes(0, 1, 1, 0), 0);
            Check.due("holds", x.holds(0, 1, 1), 0);
            Check.due("asks", x.asks(1, 0, 1), 0);
            Check.dueText(x, 0, "asks 9999+1;", 1);
            Check.due("asks", x.asks(1, 0, 1), 9999);
        });
    }

    /** What each of the three tells for a law that has one word alone. */
    private static void dueWord(ClaspedFair x, String word, int passes, int holds, int asks) {
        Check.dueText(x, 0, "passes " + word + ";holds " + word + ";asks " + word + ";", 3);
        Check.due("passes " + word, x.passes(0, 1, 3, 2), passes);
        Check.due("holds " + word, x.holds(0, 1, 3), holds);
        Check.due("asks " + word, x.asks(1, 0, 3), asks);
    }

    private static void words() {
        Sentence.holds("Terms 2", "trait: its number (holds, asks: 0)", () -> {
            ClaspedFair x = market();
            dueWord(x, "trait", 2, 0, 0);
            Check.due("trait 0", x.passes(0, 1, 3, 0), 0);
            Check.due("trait 4", x.passes(0, 1, 3, 4), 4);
            Check.dueText(x, 0, "asks trait*9999;holds trait*1000;passes 0;", 3);
            Check.due("asked for in a bargain", x.buys(1, 0, 0, 1), 0);
            Check.due("none held on", x.look(3), 0);
        });
        Sentence.holds("Terms 2", "own, other: his TRAIT and the other one's (holds: of TRAIT 0; asks: 0)", () -> {
            ClaspedFair x = market();
            for (int t = 0; t <= 4; t++) {
                x.set(t, 0, 10 + t);
                x.set(t, 1, 30 + t);
            }
            dueWord(x, "own", 12, 30, 0);
            dueWord(x, "other", 32, 10, 0);
            Check.dueText(x, 0, "passes 0;holds 1000 when own=30 and other=10;holds 0;", 3);
            Check.due("of TRAIT 0", x.clasp(0, 1, 1), 0);
            Check.due("he held on", x.look(3), 1);
            Check.dueText(x, 0, "asks own+other;passes 0;holds 0;", 3);
            Check.due("asked for in a bargain", x.buys(1, 0, 0, 1), 0);
        });
        Sentence.holds("Terms 2", "grip; price; worth, spirit: the HORSE's; shook, purse: his; kin: 1, if they are; day.", () -> {
            ClaspedFair x = market();
            dueWord(x, "grip", 3, 3, 3);
            dueWord(x, "price", 0, 0, 0);
            dueWord(x, "worth", 0, 0, 400);
            dueWord(x, "spirit", 0, 0, 5);
            dueWord(x, "purse", 1000, 500, 1000);
            dueWord(x, "shook", 0, 0, 0);
            dueWord(x, "kin", 0, 0, 0);
            dueWord(x, "day", 0, 0, 0);
            Check.dueText(x, 3, "person 1 kin 2;person 2 kin 0;", 2);
            dueWord(x, "kin", 0, 0, 0);
            Check.dueText(x, 3, "person 1 kin 0;", 1);
            dueWord(x, "kin", 1, 1, 1);
            x.days(60);
            dueWord(x, "day", 60, 60, 60);
            x.hand(2, 1);
            x.clasp(2, 1, 1);
            dueWord(x, "shook", 0, 1, 0);
        });
    }
}
