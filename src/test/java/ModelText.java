import java.util.ArrayList;
import java.util.List;
import java.util.Set;
import java.util.function.ToIntFunction;

/** Reads texts for the Model: a fault is thrown where it is met. */
final class ModelText {
    static final class Fault extends RuntimeException {
        private static final long serialVersionUID = 1L;
        final int kind;
        final int place;

        Fault(int kind, int place) {
            this.kind = kind;
            this.place = place;
        }
    }

    private static final Set<String> UNITS = Set.of("trait", "own", "other", "grip", "price", "worth", "spirit",
            "shook", "purse", "kin", "day");

    private final String text;
    private final int people;
    private final int horses;
    private int from;
    private int to;
    private int open;

    ModelText(String text, int people, int horses) {
        this.text = text;
        this.people = people;
        this.horses = horses;
        next();
    }

    private static boolean letter(char c) {
        return c < 128 && Character.isLetter(c);
    }

    private static boolean digit(char c) {
        return c >= '0' && c <= '9';
    }

    private void next() {
        from = to;
        while (from < text.length() && (text.charAt(from) == ' ' || text.charAt(from) == 10)) {
            from++;
        }
        to = from;
        if (from == text.length()) {
            return;
        }
        char c = text.charAt(from);
        do {
            to++;
        } while (to < text.length()
                && (letter(c) && letter(text.charAt(to)) || digit(c) && digit(text.charAt(to))));
    }

    private String token() {
        return text.substring(from, to);
    }

    private boolean is(String what) {
        return token().equals(what);
    }

    private boolean atEnd() {
        return from == text.length();
    }

    private Fault fault(int kind) {
        return new Fault(kind, from);
    }

    private void must(String what) {
        if (!is(what)) {
            throw fault(1);
        }
        next();
    }

    private int anyNumber() {
        if (!token().matches("[0-9]{1,4}")) {
            throw fault(1);
        }
        return Integer.parseInt(token());
    }

    private int number(int least, int most) {
        int v = anyNumber();
        if (v < least || v > most) {
            throw fault(2);
        }
        next();
        return v;
    }

    private void begin(String word, int lines) {
        if (!is(word)) {
            throw fault(1);
        }
        if (lines == 16) {
            throw fault(3);
        }
        next();
    }

    List<int[]> fair() {
        List<int[]> all = new ArrayList<>();
        while (!atEnd()) {
            begin("on", all.size());
            int[] line = new int[5];
            line[0] = number(0, 999);
            must("person");
            line[1] = number(0, people - 1);
            must("horse");
            line[2] = number(0, horses - 1);
            must("at");
            line[3] = number(0, 9999);
            must("grip");
            line[4] = number(1, 9);
            must(";");
            all.add(line);
        }
        return all;
    }

    List<Object[]> habits() {
        List<Object[]> all = new ArrayList<>();
        while (!atEnd()) {
            begin("on", all.size());
            int day = number(0, 999);
            String what = token();
            if (!Set.of("glove", "bare", "sling", "pay", "cold").contains(what)) {
                throw fault(1);
            }
            next();
            int person = number(0, people - 1);
            int n = what.equals("pay") ? number(1, 999) : what.equals("cold") ? number(0, 4) : 0;
            int m = what.equals("cold") ? number(1, 99) : 0;
            must(";");
            all.add(new Object[] {day, what, person, n, m});
        }
        return all;
    }

    List<int[]> kin() {
        List<int[]> all = new ArrayList<>();
        while (!atEnd()) {
            begin("person", all.size());
            int a = number(0, people - 1);
            must("kin");
            if (anyNumber() == a) {
                throw fault(2);
            }
            int b = number(0, people - 1);
            must(";");
            all.add(new int[] {a, b});
        }
        return all;
    }

    List<Model.LawLine> law() {
        List<Model.LawLine> all = new ArrayList<>();
        while (!atEnd()) {
            Model.LawLine line = new Model.LawLine();
            line.word = token();
            begin(is("holds") || is("asks") ? token() : "passes", all.size());
            line.sum = sum();
            if (is("when")) {
                next();
                line.when = either();
            }
            must(";");
            all.add(line);
        }
        return all;
    }

    private ToIntFunction<Model.View> either() {
        ToIntFunction<Model.View> a = both();
        while (is("or")) {
            next();
            ToIntFunction<Model.View> l = a;
            ToIntFunction<Model.View> r = both();
            a = v -> l.applyAsInt(v) != 0 || r.applyAsInt(v) != 0 ? 1 : 0;
        }
        return a;
    }

    private ToIntFunction<Model.View> both() {
        ToIntFunction<Model.View> a = single();
        while (is("and")) {
            next();
            ToIntFunction<Model.View> l = a;
            ToIntFunction<Model.View> r = single();
            a = v -> l.applyAsInt(v) != 0 && r.applyAsInt(v) != 0 ? 1 : 0;
        }
        return a;
    }

    private ToIntFunction<Model.View> single() {
        if (is("not") || is("(")) {
            boolean not = is("not");
            if (open == 8) {
                throw fault(3);
            }
            open++;
            next();
            ToIntFunction<Model.View> a = not ? single() : either();
            if (!not) {
                must(")");
            }
            open--;
            return not ? v -> a.applyAsInt(v) != 0 ? 0 : 1 : a;
        }
        ToIntFunction<Model.View> l = sum();
        String sign = token();
        if (!Set.of("<", "=", ">").contains(sign)) {
            throw fault(1);
        }
        next();
        ToIntFunction<Model.View> r = sum();
        return v -> {
            int x = l.applyAsInt(v);
            int y = r.applyAsInt(v);
            return (sign.equals("<") ? x < y : sign.equals("=") ? x == y : x > y) ? 1 : 0;
        };
    }

    private ToIntFunction<Model.View> sum() {
        ToIntFunction<Model.View> a = term();
        while (is("+") || is("-")) {
            int times = is("+") ? 1 : -1;
            next();
            ToIntFunction<Model.View> l = a;
            ToIntFunction<Model.View> r = term();
            a = v -> l.applyAsInt(v) + times * r.applyAsInt(v);
        }
        return a;
    }

    private ToIntFunction<Model.View> term() {
        ToIntFunction<Model.View> a = unit();
        while (is("*") || is("/")) {
            ToIntFunction<Model.View> l = a;
            boolean times = is("*");
            next();
            if (times) {
                ToIntFunction<Model.View> r = unit();
                a = v -> l.applyAsInt(v) * r.applyAsInt(v);
            } else {
                if (anyNumber() == 0) {
                    throw fault(2);
                }
                int part = number(1, 9999);
                a = v -> l.applyAsInt(v) / part;
            }
        }
        return a;
    }

    private ToIntFunction<Model.View> unit() {
        if (UNITS.contains(token())) {
            String word = token();
            next();
            return v -> v.word.get(word);
        }
        int n = number(0, 9999);
        return v -> n;
    }
}
