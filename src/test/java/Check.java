/** Counts answers that are not the due ones, and writes texts onto the TAPE. */
final class Check {
    private static int asked = 0;
    private static int wrong = 0;

    private Check() {
    }

    static void due(String what, long got, long want) {
        asked++;
        if (got != want) {
            wrong++;
            if (wrong <= 50) {
                System.out.println(what + " answered " + got + ", due is " + want);
            }
        }
    }

    static void due(String what, boolean got, boolean want) {
        due(what, got ? 1 : 0, want ? 1 : 0);
    }

    /** Puts a text onto the empty TAPE: the bytes are filled up with blanks and cut off again. */
    static void write(ClaspedFair x, String text) {
        int feeds = (text.length() + 19) / 20;
        for (int i = 0; i < feeds; i++) {
            int[] word = new int[5];
            for (int j = 0; j < 20; j++) {
                int at = 20 * i + j;
                int b = at < text.length() ? text.charAt(at) & 255 : ' ';
                word[j / 4] = word[j / 4] << 8 | b;
            }
            due("feed of " + text, x.feed(word[0], word[1], word[2], word[3], word[4]), 20 * (i + 1));
        }
        due("end of " + text, x.end(text.length()), true);
    }

    /** Tells a text: how many lines, or NONE. */
    static int tell(ClaspedFair x, int k, String text) {
        write(x, text);
        return x.text(k);
    }

    static void dueText(ClaspedFair x, int k, String text, int lines) {
        due("text " + k + ": " + text, tell(x, k, text), lines);
        due("fault(0) of " + text, x.fault(0), 0);
        due("fault(1) of " + text, x.fault(1), -1);
    }

    static void dueFault(ClaspedFair x, int k, String text, int fault, int place) {
        int before = x.look(7 + k);
        due("text " + k + ": " + text, tell(x, k, text), -1);
        due("fault(0) of " + text, x.fault(0), fault);
        due("fault(1) of " + text, x.fault(1), place);
        due("lines after the fault of " + text, x.look(7 + k), before);
    }

    static void finish() {
        System.out.println(asked + " answers, " + wrong + " not as due");
        if (wrong != 0) {
            System.exit(1);
        }
    }
}
