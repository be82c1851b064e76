/** Promises 10 to 13: the TAPE, the four TEXTS and their FAULTS. */
public final class TextTest {
    private static final int MIN = Integer.MIN_VALUE;
    private static final int MAX = Integer.MAX_VALUE;

    public static void main(String[] args) {
        tape();
        texts();
        fault();
        lawFaults();
        fairFaults();
        habitFaults();
        kinFaults();
        lines();
        open();
        tokens();
        Check.finish();
    }

    private static ClaspedFair market() {
        ClaspedFair x = new ClaspedFair();
        x.person(1000, 100);
        x.person(1000, 200);
        x.person(1000, 300);
        x.horse(0, 10, 1);
        x.horse(1, 20, 2);
        return x;
    }

    private static void tape() {
        ClaspedFair x = market();
        for (int i = 1; i <= 20; i++) {
            Check.due("feed " + i, x.feed(0x20202020, 0x20202020, 0x20202020, 0x20202020, 0x0a0a0a0a), 20 * i);
        }
        Check.due("feed beyond 400", x.feed(1, 1, 1, 1, 1), -1);
        Check.due("end(401)", x.end(401), false);
        Check.due("end(-1)", x.end(-1), false);
        Check.due("end(MIN)", x.end(MIN), false);
        Check.due("end(MAX)", x.end(MAX), false);
        Check.due("end(400)", x.end(400), true);
        Check.due("end(381)", x.end(381), true);
        Check.due("feed from 381", x.feed(0, 0, 0, 0, 0), -1);
        Check.due("nothing came", x.end(382), false);
        Check.due("end(380)", x.end(380), true);
        Check.due("feed from 380", x.feed(0x20202020, 0x20202020, 0x20202020, 0x20202020, 0x20202020), 400);
        Check.due("blanks alone", x.text(0), 0);
        Check.due("the TAPE is empty then", x.end(1), false);
        Check.write(x, "passes 7;");
        Check.due("end in the midst", x.end(8), true);
        Check.due("text cut off", x.text(0), -1);
        Check.due("its fault's place", x.fault(1), 8);
        Check.due("the TAPE is empty after a fault", x.end(1), false);
        // "pass" "es 1" ";pas" "ses " "2;  ": the highest byte first.
        Check.due("feed", x.feed(0x70617373, 0x65732031, 0x3b706173, 0x73657320, 0x323b2020), 20);
        Check.due("two lines", x.text(0), 2);
        Check.due("the first one tells", x.passes(0, 1, 1, 0), 1);
        x.days(1);
        Check.write(x, "on");
        x.end(1);
        Check.due("the TAPE forgets nothing", x.look(11), 1);
    }

    private static void texts() {
        ClaspedFair x = market();
        Check.dueText(x, 0, "passes 1;holds 2;asks 3;", 3);
        Check.dueText(x, 1, "on 0 person 0 horse 1 at 9999 grip 9;on 999 person 2 horse 0 at 0 grip 1;", 2);
        Check.dueText(x, 2, "on 0 glove 0;on 1 bare 1;on 999 sling 2;on 5 pay 0 1;on 5 pay 0 999;on 6 cold 1 0 1;"
                + "on 6 cold 1 4 99;", 7);
        Check.dueText(x, 3, "person 0 kin 1;person 2 kin 0;person 1 kin 0;", 3);
        int[] lines = {3, 2, 7, 3};
        for (int k = 0; k < 4; k++) {
            Check.due("lines of " + k, x.look(7 + k), lines[k]);
        }
        int[] wrong = {-1, 4, MAX, MIN};
        for (int w : wrong) {
            Check.dueFault(x, 2, "on", 1, 2);
            Check.write(x, "on 0 glove 0;");
            Check.due("text(" + w + ")", x.text(w), -1);
            Check.due("fault(0) then", x.fault(0), 0);
            Check.due("fault(1) then", x.fault(1), -1);
            // The document's "empty then" is read as said of every call.
            Check.due("the TAPE is empty then, too", x.end(1), false);
        }
        for (int k = 0; k < 4; k++) {
            Check.due("lines of " + k, x.look(7 + k), lines[k]);
            Check.due("an empty text " + k, x.text(k), 0);
            Check.due("no lines of " + k, x.look(7 + k), 0);
        }
    }

    private static void fault() {
        ClaspedFair x = market();
        Check.dueFault(x, 0, "asks 1 / 0;", 2, 9);
        Check.due("fault(2)", x.fault(2), -1);
        Check.due("fault(-1)", x.fault(-1), -1);
        Check.due("fault(MAX)", x.fault(MAX), -1);
        Check.due("fault(MIN)", x.fault(MIN), -1);
        x.days(1);
        x.look(0);
        Check.due("fault stays", x.fault(0), 2);
        Check.due("its place stays", x.fault(1), 9);
        Check.dueText(x, 0, "", 0);
        Check.dueFault(x, 1, "x", 1, 0);
        Check.dueText(x, 2, "", 0);
    }

    private static void lawFaults() {
        ClaspedFair x = market();
        Check.dueText(x, 0, "holds 5;", 1);
        Check.dueFault(x, 0, "passes", 1, 6);
        Check.dueFault(x, 0, "passes  \n", 1, 9);
        Check.dueFault(x, 0, "passes 1", 1, 8);
        Check.dueFault(x, 0, ";", 1, 0);
        Check.dueFault(x, 0, "when 1=1;", 1, 0);
        Check.dueFault(x, 0, "on 1 glove 0;", 1, 0);
        Check.dueFault(x, 0, "passes -1;", 1, 7);
        Check.dueFault(x, 0, "passes passes;", 1, 7);
        Check.dueFault(x, 0, "passes asks;", 1, 7);
        Check.dueFault(x, 0, "passes when 1=1;", 1, 7);
        Check.dueFault(x, 0, "passes (1);", 1, 7);
        Check.dueFault(x, 0, "passes 1 2;", 1, 9);
        Check.dueFault(x, 0, "passes 1 + ;", 1, 11);
        Check.dueFault(x, 0, "passes 1 * / 2;", 1, 11);
        Check.dueFault(x, 0, "passes 1 / grip;", 1, 11);
        Check.dueFault(x, 0, "passes grip / 0000;", 2, 14);
        Check.dueFault(x, 0, "passes grip / 00000;", 1, 14);
        Check.dueFault(x, 0, "passes 1 when;", 1, 13);
        Check.dueFault(x, 0, "passes 1 when 1;", 1, 15);
        Check.dueFault(x, 0, "passes 1 when 1=;", 1, 16);
        Check.dueFault(x, 0, "passes 1 when 1=1=1;", 1, 17);
        Check.dueFault(x, 0, "passes 1 when 1=1 and;", 1, 21);
        Check.dueFault(x, 0, "passes 1 when 1=1 or or 1=1;", 1, 21);
        Check.dueFault(x, 0, "passes 1 when (1=1;", 1, 18);
        Check.dueFault(x, 0, "passes 1 when 1=1);", 1, 17);
        Check.dueFault(x, 0, "passes 1 when ();", 1, 15);
        Check.dueFault(x, 0, "passes 1 when (1)=1;", 1, 16);
        Check.dueFault(x, 0, "passes 1 when not;", 1, 17);
        Check.dueFault(x, 0, "passes 1 when 1/0=1;", 2, 16);
        Check.dueFault(x, 0, "passes 1/0 when ;", 2, 9);
        Check.dueFault(x, 0, "passes 1;passes 2;holds", 1, 23);
        Check.due("the law as it was", x.holds(0, 1, 1), 5);
    }

    private static void fairFaults() {
        ClaspedFair x = market();
        Check.dueText(x, 1, "on 0 person 0 horse 1 at 50 grip 9;", 1);
        Check.dueFault(x, 1, "on 1000 person 0 horse 0 at 0 grip 1;", 2, 3);
        Check.dueFault(x, 1, "on 0 person 3 horse 0 at 0 grip 1;", 2, 12);
        Check.dueFault(x, 1, "on 0 person 0 horse 2 at 0 grip 1;", 2, 20);
        Check.dueFault(x, 1, "on 0 person 0 horse 0 at 10000 grip 1;", 1, 25);
        Check.dueFault(x, 1, "on 0 person 0 horse 0 at 0 grip 0;", 2, 32);
        Check.dueFault(x, 1, "on 0 person 0 horse 0 at 0 grip 10;", 2, 32);
        Check.dueFault(x, 1, "on 0 person 0 horse 0 at 0 grip 1", 1, 33);
        Check.dueFault(x, 1, "on 0 person 0 horse 0 at 0 grip ;", 1, 32);
        Check.dueFault(x, 1, "on 0 person 0 horse 0 at 0 ;", 1, 27);
        Check.dueFault(x, 1, "on 0 person 0 at 0;", 1, 14);
        Check.dueFault(x, 1, "on person 0;", 1, 3);
        Check.dueFault(x, 1, "on 0 glove 0;", 1, 5);
        Check.dueFault(x, 1, "on 0 horse 0 person 0 at 0 grip 1;", 1, 5);
        Check.due("undo", x.days(1) >= 0 && x.look(11) == 1, true);
        Check.dueFault(x, 1, "on 1000", 2, 3);
        Check.due("a fault forgets nothing", x.look(11), 1);
        Check.dueText(x, 1, "", 0);
        Check.due("FAIR forgets what can be undone", x.look(11), 0);
        ClaspedFair none = new ClaspedFair();
        Check.dueFault(none, 1, "on 0 person 0 horse 0 at 0 grip 1;", 2, 12);
        none.person(0, 0);
        Check.dueFault(none, 1, "on 0 person 0 horse 0 at 0 grip 1;", 2, 20);
    }

    private static void habitFaults() {
        ClaspedFair x = market();
        Check.dueText(x, 2, "on 0 glove 0;", 1);
        Check.dueFault(x, 2, "on 1000 glove 0;", 2, 3);
        Check.dueFault(x, 2, "on 0 glove 3;", 2, 11);
        Check.dueFault(x, 2, "on 0 bare 3;", 2, 10);
        Check.dueFault(x, 2, "on 0 sling 3;", 2, 11);
        Check.dueFault(x, 2, "on 0 pay 3 1;", 2, 9);
        Check.dueFault(x, 2, "on 0 pay 0 0;", 2, 11);
        Check.dueFault(x, 2, "on 0 pay 0 1000;", 2, 11);
        Check.dueFault(x, 2, "on 0 pay 0;", 1, 10);
        Check.dueFault(x, 2, "on 0 glove 0 1;", 1, 13);
        Check.dueFault(x, 2, "on 0 cold 3 0 1;", 2, 10);
        Check.dueFault(x, 2, "on 0 cold 0 5 1;", 2, 12);
        Check.dueFault(x, 2, "on 0 cold 0 0 0;", 2, 14);
        Check.dueFault(x, 2, "on 0 cold 0 0 100;", 2, 14);
        Check.dueFault(x, 2, "on 0 cold 0 0;", 1, 13);
        Check.dueFault(x, 2, "on 0 person 0;", 1, 5);
        Check.dueFault(x, 2, "on 0 ;", 1, 5);
        Check.dueFault(x, 2, "glove 0;", 1, 0);
        x.days(1);
        Check.dueFault(x, 2, "on 0", 1, 4);
        Check.due("a fault forgets nothing", x.look(11), 1);
        Check.dueText(x, 2, "", 0);
        Check.due("HABITS forget what can be undone", x.look(11), 0);
    }

    private static void kinFaults() {
        ClaspedFair x = market();
        x.days(1);
        Check.dueText(x, 3, "person 0 kin 2;", 1);
        Check.dueFault(x, 3, "person 0 kin 0;", 2, 13);
        Check.dueFault(x, 3, "person 2 kin 02;", 2, 13);
        Check.dueFault(x, 3, "person 3 kin 0;", 2, 7);
        Check.dueFault(x, 3, "person 0 kin 3;", 2, 13);
        Check.dueFault(x, 3, "person 3 kin 3;", 2, 7);
        Check.dueFault(x, 3, "person 0 kin person 1;", 1, 13);
        Check.dueFault(x, 3, "person 0 1;", 1, 9);
        Check.dueFault(x, 3, "kin 0 person 1;", 1, 0);
        Check.dueFault(x, 3, "person 0 kin 1", 1, 14);
        Check.due("KIN as it was", x.of(0, 8), 4);
        Check.dueText(x, 0, "passes 1;", 1);
        Check.dueText(x, 3, "", 0);
        Check.due("THE LAW and KIN forget nothing", x.look(11), 1);
    }

    private static String times(String line, int n) {
        return line.repeat(n);
    }

    private static void lines() {
        ClaspedFair x = market();
        Check.dueText(x, 0, times("passes 1;", 16), 16);
        Check.dueFault(x, 0, times("passes 1;", 16) + " holds 1/0;", 3, 145);
        Check.dueFault(x, 0, times("passes 1;", 17), 3, 144);
        Check.dueFault(x, 0, times("passes 1;", 16) + "when", 1, 144);
        Check.dueFault(x, 0, times("passes 1;", 16) + ";", 1, 144);
        Check.dueText(x, 1, times("on 1person 0horse 0at 1grip 1;", 13), 13);
        Check.dueText(x, 2, times("on 0 glove 0;", 16), 16);
        Check.dueFault(x, 2, times("on 0 glove 0;", 16) + "on", 3, 208);
        Check.dueFault(x, 2, times("on 0 glove 0;", 16) + "glove", 1, 208);
        Check.dueText(x, 3, times("person 0 kin 1;", 16) + "\n \n", 16);
        Check.dueFault(x, 3, times("person 0 kin 1;", 16) + "\n \nperson 0 kin 0;", 3, 243);
        Check.due("alike lines count each as a line", x.look(10), 16);
    }

    private static void open() {
        ClaspedFair x = market();
        Check.dueText(x, 0, "holds 7 when " + times("(", 8) + "1=1" + times(")", 8) + ";", 1);
        Check.due("told", x.holds(0, 1, 1), 7);
        Check.dueText(x, 0, "holds 8 when " + times("not ", 8) + "1=1;", 1);
        Check.due("told", x.holds(0, 1, 1), 8);
        Check.dueText(x, 0, "holds 9 when " + times("not (", 4) + "1=1" + times(")", 4) + ";", 1);
        Check.dueFault(x, 0, "holds 9 when " + times("not (", 4) + "not 1=1" + times(")", 4) + ";", 3, 33);
        Check.dueFault(x, 0, "holds 9 when " + times("(not ", 4) + "(1=1" + times(")", 4) + ";", 3, 33);
        Check.dueText(x, 0, "holds 6 when " + times("(1=1) and ", 12) + times("not 1=2 and ", 12) + "1=1;", 1);
        Check.due("what is closed is not open", x.holds(0, 1, 1), 6);
        Check.dueText(x, 0, "holds 5 when " + times("(1=1 and ", 8) + "1=1" + times(")", 8) + " and not 1=2;", 1);
        Check.due("told", x.holds(0, 1, 1), 5);
        Check.dueFault(x, 0, "holds 9 when 1=1" + times("(", 9) + ";", 1, 16);
    }

    private static void tokens() {
        ClaspedFair x = market();
        Check.dueText(x, 0, "passes9999when1=1and1<2or3>2;holds\n1 ;\n\nasks 0001;", 3);
        Check.due("told", x.passes(0, 1, 1, 0), 1000);
        Check.due("told", x.asks(1, 0, 1), 1);
        Check.dueFault(x, 0, "passes 12345;", 1, 7);
        Check.dueFault(x, 0, "passesholds 1;", 1, 0);
        Check.dueFault(x, 0, "pass 1;", 1, 0);
        Check.dueFault(x, 0, "Passes 1;", 1, 0);
        Check.dueFault(x, 0, "passesX 1;", 1, 0);
        Check.dueFault(x, 0, "passesA 1;", 1, 0);
        Check.dueFault(x, 0, "passesZ 1;", 1, 0);
        Check.dueFault(x, 0, "passesa 1;", 1, 0);
        Check.dueFault(x, 0, "passesz 1;", 1, 0);
        for (char c : new char[] {'@', '[', '`', '{', ':', '!', '?', '\'', '\"', '%', 31, 127, 128, 255}) {
            Check.dueFault(x, 0, "passes" + c + "1;", 1, 6);
            Check.dueFault(x, 0, "passes 1" + c + ";", 1, 8);
        }
        Check.dueFault(x, 0, "passes\t1;", 1, 6);
        Check.dueFault(x, 0, "passes 1\r;", 1, 8);
        Check.dueFault(x, 0, "passes 1;\0", 1, 9);
        Check.dueFault(x, 0, "passes \u00e9;", 1, 7);
        Check.dueFault(x, 0, "passes 1,2;", 1, 8);
        Check.dueFault(x, 0, "passes 1 when 1<=1;", 1, 16);
        Check.dueFault(x, 0, "passes 1_;", 1, 8);
        Check.dueText(x, 3, "person0kin1;person1kin2;", 2);
        // As many tokens as there can be.
        Check.dueFault(x, 0, times(";", 400), 1, 0);
        Check.dueText(x, 0, "asks 1" + times("+1", 196) + " ;", 1);
        Check.due("told", x.asks(1, 0, 1), 197);
        Check.dueFault(x, 0, "asks 1" + times("+1", 197), 1, 400);
        Check.dueText(x, 0, "asks 1*8" + times("/1", 195) + " ;", 1);
        Check.due("told", x.asks(1, 0, 1), 8);
        Check.dueText(x, 0, "asks 3 when 1=1" + times(" or 1=1", 54) + "    ;", 1);
        Check.due("told", x.asks(1, 0, 1), 3);
    }
}
