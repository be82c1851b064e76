/** What the document says under term 3: bargains, days, clasps and THE BOOK. */
final class SentencesOfBargains {
    private SentencesOfBargains() {
    }

    static void all() {
        canBe();
        price();
        passing();
        holdingOn();
        habits();
        fair();
        clasps();
        book();
    }

    private static ClaspedFair market(String law) {
        ClaspedFair x = new ClaspedFair();
        x.person(1000, 100);
        x.person(500, 300);
        x.person(9000, 900);
        x.horse(0, 400, 5);
        Check.dueText(x, 0, law, law.length() - law.replace(";", "").length());
        return x;
    }

    private static void dueTraits(ClaspedFair x, int person, int each) {
        for (int t = 0; t <= 4; t++) {
            Check.due("trait " + t + " of " + person, x.of(person, t), each);
        }
    }

    private static void dueLine(ClaspedFair x, int i, int day, int what, int who, int much) {
        int[] due = {day, what, who, much};
        for (int w = 0; w <= 3; w++) {
            Check.due("book(" + i + ", " + w + ")", x.book(i, w), due[w]);
        }
    }

    private static void canBe() {
        Sentence.holds("Terms 3", "a HORSE that is not his, a price (0 .. 9999), a grip (1 .. 9)", () -> {
            ClaspedFair x = market("asks 0;holds 0;passes grip;");
            x.set(5, 1, 9999);
            Check.dueRefused("his own", x, () -> x.buys(0, 0, 0, 1), -1);
            Check.dueRefused("price -1", x, () -> x.buys(1, 0, -1, 1), -1);
            Check.dueRefused("price 10000", x, () -> x.buys(1, 0, 10000, 1), -1);
            Check.dueRefused("grip 0", x, () -> x.buys(1, 0, 0, 0), -1);
            Check.dueRefused("grip 10", x, () -> x.buys(1, 0, 0, 10), -1);
            Check.due("price 0, grip 1", x.buys(1, 0, 0, 1), 0);
            x.undo();
            Check.due("price 9999, grip 9", x.buys(1, 0, 9999, 9), 5 * 2);
        });
        Sentence.holds("Terms 3", "It can be, if neither has his HAND in a sling", () -> {
            ClaspedFair x = market("asks 0;holds 0;");
            x.hand(1, 2);
            Check.dueRefused("the buyer", x, () -> x.buys(1, 0, 0, 1), -1);
            x.hand(0, 2);
            Check.dueRefused("both", x, () -> x.buys(1, 0, 0, 1), -1);
            x.hand(1, 0);
            Check.dueRefused("the owner", x, () -> x.buys(1, 0, 0, 1), -1);
            x.hand(0, 1);
            x.hand(2, 2);
            Check.due("neither", x.buys(1, 0, 0, 1), 0);
        });
        Sentence.holds("Terms 3", "the price is the buyer's PURSE at most", () -> {
            ClaspedFair x = market("asks 0;holds 0;");
            Check.dueRefused("one more", x, () -> x.buys(1, 0, 501, 1), -1);
            Check.due("all he has", x.buys(1, 0, 500, 1) >= 0, true);
            Check.due("nothing is left", x.of(1, 5), 0);
            x.horse(0, 1, 1);
            Check.dueRefused("an empty purse", x, () -> x.buys(1, 1, 1, 1), -1);
            Check.due("for nothing", x.buys(1, 1, 0, 1) >= 0, true);
        });
        Sentence.holds("Terms 3", "and not less than the OWNER asks (of the OWNER)", () -> {
            ClaspedFair x = market("asks purse-800;holds 0;");
            Check.dueRefused("one less than 200", x, () -> x.buys(1, 0, 199, 1), -1);
            Check.due("what he asks", x.buys(1, 0, 200, 1) >= 0, true);
            ClaspedFair byPrice = market("asks price+1 when price<300;asks price;holds 0;");
            Check.due("the price that is offered", byPrice.buys(1, 0, 299, 1), -1);
            Check.due("the price that is offered", byPrice.buys(1, 0, 300, 1) >= 0, true);
        });
    }

    private static void price() {
        Sentence.holds("Terms 3", "Both SHOOK one more; price from PURSE to PURSE (9999 at most)", () -> {
            ClaspedFair x = market("asks 0;holds 0;");
            x.set(5, 0, 9500);
            x.buys(1, 0, 499, 1);
            Check.due("just full", x.of(0, 5), 9999);
            Check.due("the buyer's", x.of(1, 5), 1);
            Check.due("shook", x.of(0, 7), 1);
            Check.due("shook", x.of(1, 7), 1);
            Check.due("the third one did not", x.of(2, 7), 0);
            x.undo();
            x.buys(1, 0, 500, 1);
            Check.due("no more than full", x.of(0, 5), 9999);
            Check.due("the whole price is gone", x.of(1, 5), 0);
        });
        Sentence.holds("Terms 3", "the HORSE is the buyer's, SOLD one more", () -> {
            ClaspedFair x = market("asks 0;holds 0;");
            x.buys(1, 0, 0, 1);
            Check.due("owner", x.horseOf(0, 0), 1);
            Check.due("sold", x.horseOf(0, 3), 1);
            Check.due("not twice the same one", x.buys(1, 0, 0, 1), -1);
            Check.due("sold", x.horseOf(0, 3), 1);
        });
    }

    private static void passing() {
        Sentence.holds("Terms 3", "Is no HAND gloved: TRAIT by TRAIT passes is asked of the OWNER of before (SHOOK as it is"
                + " then) and of the buyer", () -> {
            ClaspedFair x = market("asks 0;holds 0;passes 10 when shook=1 and purse=1001;passes 100 when purse=499;passes 0;");
            Check.due("as it is then", x.buys(1, 0, 1, 1), 5 * (1 + 30));
            for (int who = 0; who <= 1; who++) {
                ClaspedFair gloved = market("asks 0;holds 1000;passes 100;");
                gloved.hand(who, 1);
                Check.due("gloved", gloved.buys(1, 0, 1, 1), 0);
                dueTraits(gloved, 0, 100);
                dueTraits(gloved, 1, 300);
                Check.due("nothing passed", gloved.look(2), 0);
                Check.due("sold all the same", gloved.horseOf(0, 0), 1);
            }
        });
        Sentence.holds("Terms 3", "so many of a thousand of his go over", () -> {
            ClaspedFair x = market("holds 0;passes 0;");
            int[][] due = {{0, 0}, {1, 0}, {10, 1 + 3}, {999, 99 + 299}, {1000, 100 + 300}};
            for (int[] d : due) {
                Check.dueText(x, 0, "holds 0;passes " + d[0] + ";", 2);
                Check.due(d[0] + " of a thousand", x.clasp(0, 1, 1), 5 * d[1]);
                x.undo();
            }
        });
        Sentence.holds("Terms 3", "both at once, downwards, no more than the other one has room for (999; what he gives is"
                + " room for what he gets)", () -> {
            ClaspedFair x = market("holds 0;passes 1000;");
            Check.due("both give all at once", x.clasp(0, 1, 1), 5 * (100 + 300));
            dueTraits(x, 0, 300);
            dueTraits(x, 1, 100);
            x.undo();
            Check.dueText(x, 0, "holds 0;passes 19 when own=100;passes 6;", 3);
            Check.due("1.9 and 1.8: downwards", x.clasp(0, 1, 1), 5 * (1 + 1));
            x.undo();
            // 300 would come to one who has 900: there is room for 99.
            Check.dueText(x, 0, "holds 0;passes 1000 when own=300;passes 0;", 3);
            Check.due("room for 99", x.clasp(1, 2, 1), 5 * 99);
            dueTraits(x, 2, 999);
            dueTraits(x, 1, 201);
            x.undo();
            Check.due("room for 99, the other way", x.clasp(2, 1, 1), 5 * 99);
            dueTraits(x, 2, 999);
            x.undo();
            // He gives 90 himself: there is room for 189.
            Check.dueText(x, 0, "holds 0;passes 1000 when own=300;passes 100;", 3);
            Check.due("room for 189", x.clasp(1, 2, 1), 5 * (189 + 90));
            dueTraits(x, 2, 999);
            dueTraits(x, 1, 201);
            x.undo();
            // 189 just fit: no less goes over.
            Check.dueText(x, 0, "holds 0;passes 630 when own=300;passes 100;", 3);
            Check.due("just room", x.clasp(1, 2, 1), 5 * (189 + 90));
            x.undo();
            Check.dueText(x, 0, "holds 0;passes 634 when own=300;passes 100;", 3);
            Check.due("one more would be too much", x.clasp(1, 2, 1), 5 * (189 + 90));
        });
        Sentence.holds("Terms 3", "PASSED as much as went over both ways", () -> {
            ClaspedFair x = market("holds 0;passes 10;");
            x.clasp(0, 1, 1);
            Check.due("both ways", x.look(2), 5 * (1 + 3));
            x.clasp(0, 1, 1);
            Check.due("added", x.look(2), 5 * (1 + 3) + 5 * (1 + 2));
        });
    }

    private static void holdingOn() {
        Sentence.holds("Terms 3", "is it above 0, a DRAW of 1000: below it he holds on", () -> {
            ClaspedFair x = market("holds 0;");
            x.state(7);
            x.clasp(0, 1, 1);
            Check.due("0: no draw", x.look(6), 7);
            Check.due("0: none holds on", x.look(3), 0);
            Check.dueText(x, 0, "holds 1;", 1);
            x.clasp(0, 1, 1);
            Check.due("1: a draw", x.look(6), 1664525 * 7 + 1013904223);
            // From STATE 0 on 563 is drawn.
            Check.dueText(x, 0, "holds 563;", 1);
            x.state(0);
            Check.due("563 is not below 563", x.clasp(0, 1, 1) > 0, true);
            Check.dueText(x, 0, "holds 564;", 1);
            x.state(0);
            Check.due("563 is below 564", x.clasp(0, 1, 1), 0);
            Check.due("one held on", x.look(3), 1);
            Check.dueText(x, 0, "holds 1000;", 1);
            for (int s = 0; s < 20; s++) {
                x.state(s);
                Check.due("1000: sure", x.clasp(0, 1, 1), 0);
            }
        });
        Sentence.holds("Terms 3", "Then, is no HAND gloved, holds is asked of the buyer", () -> {
            // Of TRAIT 0 as it is then, after so much has passed.
            ClaspedFair x = market("asks 0;passes 10;holds 1000 when own=298 and other=102 and purse=490 and shook=1;holds 0;");
            Check.due("he holds on", x.buys(1, 0, 10, 1), 0);
            Check.due("held", x.look(3), 1);
            ClaspedFair owner = market("asks 0;passes 10;holds 1000 when own<200;holds 0;");
            Check.due("the owner is not asked", owner.buys(1, 0, 10, 1), 20);
            for (int who = 0; who <= 1; who++) {
                ClaspedFair gloved = market("asks 0;holds 1000;");
                gloved.hand(who, 1);
                gloved.buys(1, 0, 10, 1);
                Check.due("gloved: none holds on", gloved.look(3), 0);
                Check.due("gloved: no draw", gloved.look(6), 0);
                Check.due("gloved: the price is gone", gloved.of(1, 5), 490);
            }
        });
        Sentence.holds("Terms 3", "all that passed goes back (PASSED as much less), the price, too (as much as came to the"
                + " other PURSE)", () -> {
            ClaspedFair x = market("asks 0;holds 1000;passes 1000 when own=300;passes 100;");
            x.set(5, 0, 9990);
            x.clasp(1, 2, 1);
            Check.due("nothing passed", x.look(2), 0);
            dueTraits(x, 1, 300);
            dueTraits(x, 2, 900);
            Check.due("he holds on", x.buys(1, 0, 10, 1), 0);
            Check.due("just 9 came", x.of(1, 5), 499);
            Check.due("and went back", x.of(0, 5), 9990);
            x.set(5, 0, 9999);
            Check.due("he holds on", x.buys(0, 0, 10, 1), 0);
            Check.due("all came, all went back", x.of(0, 5), 9999);
            x.set(5, 0, 500);
            x.set(5, 1, 9999);
            Check.due("a full purse: he holds on", x.buys(1, 0, 10, 1), 0);
            Check.due("all of it went back", x.of(1, 5), 9999);
            Check.due("and the owner's is as before", x.of(0, 5), 500);
        });
        Sentence.holds("Terms 3", "the HORSE stays the buyer's (SOLD, SHOOK stay as well); HELD one more.", () -> {
            ClaspedFair x = market("asks 0;holds 1000;");
            x.buys(1, 0, 10, 1);
            Check.due("owner", x.horseOf(0, 0), 1);
            Check.due("sold", x.horseOf(0, 3), 1);
            Check.due("shook", x.of(0, 7), 1);
            Check.due("shook", x.of(1, 7), 1);
            Check.due("held", x.look(3), 1);
        });
    }

    private static void habits() {
        Sentence.holds("Terms 3", "line by line of HABITS for it: glove, bare, sling: HAND 1, 0, 2", () -> {
            ClaspedFair x = market("");
            Check.dueText(x, 2, "on 1 glove 0;on 2 sling 0;on 3 bare 0;on 4 sling 0;on 4 glove 0;", 5);
            int[] due = {0, 1, 2, 0, 1, 1};
            for (int d = 0; d <= 5; d++) {
                x.days(1);
                Check.due("HAND after day " + d, x.of(0, 6), due[d]);
                Check.due("HAND of another", x.of(1, 6), 0);
            }
        });
        Sentence.holds("Terms 3", "pay: PURSE so many more (9999 at most)", () -> {
            ClaspedFair x = market("");
            x.set(5, 0, 9000);
            Check.dueText(x, 2, "on 0 pay 0 999;on 1 pay 0 1;on 0 pay 1 1;", 3);
            x.days(1);
            Check.due("just full", x.of(0, 5), 9999);
            Check.due("one more", x.of(1, 5), 501);
            x.days(1);
            Check.due("no more than full", x.of(0, 5), 9999);
        });
        Sentence.holds("Terms 3", "cold: of a TRAIT N less (0 at least)", () -> {
            ClaspedFair x = market("");
            Check.dueText(x, 2, "on 0 cold 0 4 99;on 1 cold 0 4 1;on 2 cold 0 4 1;on 0 cold 0 0 1;on 2 cold 2 1 99;", 5);
            int[] due = {1, 0, 0};
            for (int d = 0; d <= 2; d++) {
                x.days(1);
                Check.due("trait 4", x.of(0, 4), due[d]);
                Check.due("trait 0", x.of(0, 0), 99);
                Check.due("trait 3", x.of(0, 3), 100);
                Check.due("trait 1", x.of(0, 1), 100);
            }
            Check.due("of another one", x.of(2, 1), 801);
        });
    }

    private static void fair() {
        Sentence.holds("Terms 3", "Then line by line of FAIR for it: a BARGAIN, if it can be. DAY is one more.", () -> {
            ClaspedFair x = market("asks 0;holds 0;");
            Check.dueText(x, 1, "on 0 person 0 horse 0 at 0 grip 1;on 0 person 1 horse 0 at 501 grip 1;"
                    + "on 0 person 1 horse 0 at 500 grip 1;on 0 person 2 horse 0 at 1 grip 1;on 2 person 0 horse 0 at 1 grip 1;",
                    5);
            Check.due("the first two can't be", x.days(1), 2);
            Check.due("owner", x.horseOf(0, 0), 2);
            Check.due("purse", x.of(1, 5), 1);
            Check.due("DAY", x.look(4), 1);
            Check.due("none on day 1", x.days(1), 0);
            Check.due("one on day 2", x.days(1), 1);
            Check.due("of that day", x.book(x.look(5) - 2, 0), 2);
            // Habits of the day come first: pay, then the sling, then the fair.
            ClaspedFair y = market("asks 0;holds 0;");
            Check.dueText(y, 1, "on 0 person 1 horse 0 at 510 grip 1;on 1 person 2 horse 0 at 0 grip 1;", 2);
            Check.dueText(y, 2, "on 0 pay 1 10;on 1 sling 1;", 2);
            Check.due("paid before", y.days(1), 1);
            Check.due("in a sling before", y.days(1), 0);
        });
    }

    private static void clasps() {
        Sentence.holds("Terms 3", "to CLASP (two, unlike, neither HAND in a sling, with a grip, no HORSE: price, worth,"
                + " spirit 0", () -> {
            ClaspedFair x = market("holds 0;passes price*500+worth*500+spirit*500+grip*100;");
            Check.dueRefused("one with himself", x, () -> x.clasp(0, 0, 1), -1);
            Check.dueRefused("no such one", x, () -> x.clasp(0, 3, 1), -1);
            Check.dueRefused("no such one", x, () -> x.clasp(3, 0, 1), -1);
            Check.dueRefused("grip 0", x, () -> x.clasp(0, 1, 0), -1);
            Check.dueRefused("grip 10", x, () -> x.clasp(0, 1, 10), -1);
            Check.due("grip 1", x.clasp(0, 1, 1), 5 * (10 + 30));
            x.undo();
            Check.due("grip 9", x.clasp(0, 1, 9), 5 * (90 + 270));
            x.undo();
            x.hand(0, 2);
            Check.dueRefused("the first one's in a sling", x, () -> x.clasp(0, 1, 1), -1);
            Check.dueRefused("the second one's in a sling", x, () -> x.clasp(1, 0, 1), -1);
        });
        Sentence.holds("Terms 3", "of the first one as of the OWNER, the second one holds on or not; SHOOK, too)", () -> {
            ClaspedFair x = market("passes 0;holds 1000 when own=300;holds 0;");
            x.clasp(1, 0, 1);
            Check.due("the first one is not asked", x.look(3), 0);
            x.clasp(0, 1, 1);
            Check.due("the second one is", x.look(3), 1);
            Check.due("shook", x.of(0, 7), 2);
            Check.due("shook", x.of(1, 7), 2);
        });
    }

    private static void book() {
        Sentence.holds("Terms 3", "THE BOOK (150 lines; no more then)", () -> {
            ClaspedFair x = market("holds 1000;passes 100;");
            for (int i = 0; i < 49; i++) {
                x.clasp(0, 1, 1);
            }
            Check.due("147 lines", x.look(5), 147);
            Check.dueText(x, 0, "holds 0;passes 0;", 2);
            x.clasp(2, 1, 1);
            x.clasp(1, 2, 1);
            Check.due("149 lines", x.look(5), 149);
            Check.dueText(x, 0, "holds 1000;passes 100;", 2);
            x.clasp(0, 2, 1);
            Check.due("150 lines", x.look(5), 150);
            dueLine(x, 149, 0, 1, 0, 2);
            Check.due("no line 150", x.book(150, 0), -1);
            x.clasp(1, 0, 1);
            Check.due("no more", x.look(5), 150);
            dueLine(x, 149, 0, 1, 0, 2);
            dueLine(x, 0, 0, 1, 0, 1);
            Check.due("but all are done", x.look(3), 51);
        });
        Sentence.holds("Terms 3", "DAY, what (0 sold, of a BARGAIN; 1 shaken, of a CLASP; 2 passed; 3 held on), who (0: the"
                + " buyer; 1, 2: the first one, the OWNER of before; 3: who held), how much (0: the price; 1: the other one;",
                () -> {
            ClaspedFair x = market("asks 0;holds 1000;passes 100;");
            x.days(3);
            x.buys(1, 0, 77, 1);
            dueLine(x, 0, 3, 0, 1, 77);
            dueLine(x, 1, 3, 2, 0, 5 * (10 + 30));
            dueLine(x, 2, 3, 3, 1, 0);
            x.clasp(2, 1, 1);
            dueLine(x, 3, 3, 1, 2, 1);
            dueLine(x, 4, 3, 2, 2, 5 * (90 + 30));
            dueLine(x, 5, 3, 3, 1, 2);
            Check.due("no more lines", x.look(5), 6);
        });
        Sentence.holds("Terms 3", "2: in all, a line only if above 0", () -> {
            ClaspedFair x = market("asks 0;holds 1000;passes 0;");
            x.clasp(0, 1, 1);
            dueLine(x, 0, 0, 1, 0, 1);
            dueLine(x, 1, 0, 3, 1, 0);
            x.buys(1, 0, 0, 1);
            dueLine(x, 2, 0, 0, 1, 0);
            dueLine(x, 3, 0, 3, 1, 0);
            Check.dueText(x, 0, "holds 0;passes 10 when own=100 and trait=3;passes 0;", 3);
            x.clasp(0, 1, 1);
            dueLine(x, 5, 0, 2, 0, 1);
            Check.due("lines", x.look(5), 6);
        });
    }
}
