/** Counts answers that are not the due ones, and writes texts onto the TAPE. */
final class Check {
    private static int asked = 0;
    private static int wrong = 0;
    private static String about = "";

    private Check() {
    }

    /** What the answers to come are about: it stands ahead of what is told of a wrong one. */
    static void about(String what) {
        about = what.isEmpty() ? "" : "[" + what + "] ";
    }

    static int asked() {
        return asked;
    }

    static void due(String what, long got, long want) {
        asked++;
        if (got != want) {
            wrong++;
            if (wrong <= 50) {
                System.out.println(about + what + " answered " + got + ", due is " + want);
            }
        }
    }

    static void due(String what, boolean got, boolean want) {
        due(what, got ? 1 : 0, want ? 1 : 0);
    }

    /** Puts a text onto the empty TAPE: the bytes are filled up with blanks and cut off again. */
    static void write(ClaspedFair x, String text) {
        int feeds = (text.length() + 19) / 20;
        for (int i = 0; i < feeds; i++) {
            int[] word = new int[5];
            for (int j = 0; j < 20; j++) {
                int at = 20 * i + j;
                int b = at < text.length() ? text.charAt(at) & 255 : ' ';
                word[j / 4] = word[j / 4] << 8 | b;
            }
            due("feed of " + text, x.feed(word[0], word[1], word[2], word[3], word[4]), 20 * (i + 1));
        }
        due("end of " + text, x.end(text.length()), true);
    }

    /** Tells a text: how many lines, or NONE. */
    static int tell(ClaspedFair x, int k, String text) {
        write(x, text);
        return x.text(k);
    }

    static void dueText(ClaspedFair x, int k, String text, int lines) {
        due("text " + k + ": " + text, tell(x, k, text), lines);
        due("fault(0) of " + text, x.fault(0), 0);
        due("fault(1) of " + text, x.fault(1), -1);
    }

    static void dueFault(ClaspedFair x, int k, String text, int fault, int place) {
        int before = x.look(7 + k);
        due("text " + k + ": " + text, tell(x, k, text), -1);
        due("fault(0) of " + text, x.fault(0), fault);
        due("fault(1) of " + text, x.fault(1), place);
        due("lines after the fault of " + text, x.look(7 + k), before);
    }

    /** All that can be asked of an object and changes nothing: what must stay alike over a refused call. */
    static String seen(ClaspedFair x) {
        StringBuilder s = new StringBuilder();
        for (int what = 0; what <= 11; what++) {
            s.append(x.look(what)).append(' ');
        }
        for (int p = 0; p < x.look(0); p++) {
            for (int what = 0; what <= 8; what++) {
                s.append(x.of(p, what)).append(' ');
            }
        }
        for (int h = 0; h < x.look(1); h++) {
            for (int what = 0; what <= 3; what++) {
                s.append(x.horseOf(h, what)).append(' ');
            }
        }
        for (int i = 0; i < x.look(5); i++) {
            for (int what = 0; what <= 3; what++) {
                s.append(x.book(i, what)).append(' ');
            }
        }
        for (int a = -1; a < 12; a++) {
            s.append(x.came(a, -1)).append(' ');
        }
        s.append(x.could()).append(' ').append(x.balance(0, 2)).append(' ').append(x.pens(1, 0)).append(' ');
        for (int what = 0; what <= 2; what++) {
            s.append(x.game(what)).append(' ');
        }
        return s.append(x.fault(0)).append(' ').append(x.fault(1)).toString();
    }

    /** A call that answers so and changes nothing. */
    static void dueRefused(String what, ClaspedFair x, java.util.function.IntSupplier call, int want) {
        String was = seen(x);
        due(what, call.getAsInt(), want);
        due(what + " changes nothing", seen(x).equals(was), true);
    }

    static void finish() {
        System.out.println(asked + " answers, " + wrong + " not as due");
        if (wrong != 0) {
            System.exit(1);
        }
    }
}
