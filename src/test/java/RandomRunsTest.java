import java.lang.reflect.Method;
import java.util.ArrayList;
import java.util.Arrays;
import java.util.Comparator;
import java.util.List;
import java.util.Random;

/** Runs of calls by chance, the same on the class and on the Model: every answer is compared. */
public final class RandomRunsTest {
    private static final int RUNS = 1500;
    private static final int CALLS = 500;
    private static final String[] WORDS = {"trait", "own", "other", "grip", "price", "worth", "spirit", "shook",
        "purse", "kin", "day", "passes", "holds", "asks", "when", "or", "and", "not", "on", "person", "horse", "at",
        "glove", "bare", "sling", "pay", "cold", ";", "+", "-", "*", "/", "(", ")", "<", "=", ">", "0", "1", "12",
        "999", "1000", "9999", "12345", "Passes", "kinn", "#", " ", "\n", "\t", "\u00e9"};
    private static final int[] EDGES = {-2, -1, 0, 1, 2, 4, 5, 7, 8, 9, 10, 11, 12, 20, 21, 24, 25, 30, 31, 60, 61,
        200, 201, 999, 1000, 1001, 9999, 10000, Integer.MAX_VALUE, Integer.MIN_VALUE};

    private final Random random;
    private final ClaspedFair fair = new ClaspedFair();
    private final Model model = new Model();
    private final StringBuilder done = new StringBuilder();
    private final int run;
    /** How tame the arguments and how long the day of a run's market is. */
    private final boolean tame;
    private int wrong;

    private RandomRunsTest(int run) {
        this.run = run;
        random = new Random(run);
        tame = run % 4 != 0;
    }

    /** With an argument: so many runs. */
    public static void main(String[] args) throws Exception {
        Method[] face = faceMethods();
        int runs = args.length > 0 ? Integer.parseInt(args[0]) : RUNS;
        for (int run = 0; run < runs; run++) {
            new RandomRunsTest(run).go(face);
        }
        Check.finish();
    }

    private static Method[] faceMethods() {
        List<Method> all = new ArrayList<>();
        for (Method m : ClaspedFair.class.getMethods()) {
            if (m.getDeclaringClass() == ClaspedFair.class) {
                all.add(m);
            }
        }
        all.sort(Comparator.comparing(Method::getName));
        return all.toArray(new Method[0]);
    }

    private void go(Method[] face) throws Exception {
        int calls = 0;
        if (tame) {
            calls += settle(face);
        }
        while (calls < CALLS && wrong == 0) {
            int what = random.nextInt(100);
            if (what < 12) {
                calls += tell(face, random.nextInt(4));
            } else if (what < 40) {
                String[] often = {"buys", "clasp", "hand", "days", "would", "goes", "undo", "asks"};
                call(face, often[random.nextInt(often.length)]);
                calls++;
            } else {
                call(face, face[random.nextInt(face.length)].getName());
                calls++;
            }
            if (calls % 50 == 0) {
                calls += lookAround(face);
            }
        }
        lookAround(face);
    }

    private int settle(Method[] face) throws Exception {
        int people = 2 + random.nextInt(11);
        for (int i = 0; i < people; i++) {
            invoke(face, "person", random.nextInt(10000), random.nextInt(1000));
        }
        int horses = random.nextInt(8);
        for (int i = 0; i < horses; i++) {
            invoke(face, "horse", random.nextInt(people), random.nextInt(1000), random.nextInt(10));
        }
        return people + horses;
    }

    private int lookAround(Method[] face) throws Exception {
        for (int what = 0; what < 12; what++) {
            invoke(face, "look", what);
        }
        int p = random.nextInt(12);
        for (int what = 0; what < 9; what++) {
            invoke(face, "of", p, what);
        }
        for (int what = 0; what < 4; what++) {
            invoke(face, "horseOf", random.nextInt(10), what);
            invoke(face, "book", random.nextInt(150), what);
        }
        return 29;
    }

    private int any(int most) {
        if (random.nextInt(tame ? 40 : 6) == 0) {
            return EDGES[random.nextInt(EDGES.length)];
        }
        return random.nextInt(most + 1);
    }

    private int someone() {
        return any(Math.max(0, model.s.people.size() - 1));
    }

    private int someHorse() {
        return any(Math.max(0, model.s.horses.size() - 1));
    }

    private int price() {
        return random.nextInt(3) == 0 ? any(9999) : any(900);
    }

    private int orNone(int v) {
        return random.nextInt(5) == 0 ? -1 : v;
    }

    private int rarelyNone(int v) {
        return random.nextInt(20) == 0 ? -1 : v;
    }

    private void call(Method[] face, String name) throws Exception {
        switch (name) {
            case "state": if (random.nextInt(4) == 0) invoke(face, name, random.nextInt()); break;
            case "person": invoke(face, name, any(9999), any(999)); break;
            case "horse": invoke(face, name, someone(), any(999), any(9)); break;
            case "set": int what = any(7); invoke(face, name, what, what < 6 ? someone() : someHorse(),
                    any(what == 5 ? 9999 : what == 7 ? 9 : 999)); break;
            case "buys": case "would": invoke(face, name, someone(), someHorse(), price(), 1 + any(8)); break;
            case "clasp": case "holds": invoke(face, name, someone(), someone(), 1 + any(8)); break;
            case "hand": invoke(face, name, someone(), any(2)); break;
            case "days": invoke(face, name, random.nextInt(3) > 0 ? any(3) : any(60)); break;
            case "feed": invoke(face, name, random.nextInt(), random.nextInt(), 0x20202020, 0x6f6e2031, 0); break;
            case "end": invoke(face, name, any(random.nextInt(2) * 60)); break;
            case "text": invoke(face, name, any(5)); break;
            case "fault": invoke(face, name, any(2)); break;
            case "of": invoke(face, name, someone(), any(9)); break;
            case "horseOf": invoke(face, name, someHorse(), any(4)); break;
            case "passes": invoke(face, name, someone(), someone(), 1 + any(8), any(4)); break;
            case "asks": invoke(face, name, someone(), someHorse(), 1 + any(8)); break;
            case "book": invoke(face, name, any(150), any(4)); break;
            case "goes": invoke(face, name, any(60), any(4)); break;
            case "told": invoke(face, name, rarelyNone(any(11)), any(11)); break;
            case "came": invoke(face, name, orNone(any(11)), orNone(any(11))); break;
            case "number": invoke(face, name, rarelyNone(any(random.nextInt(9)))); break;
            case "ring": invoke(face, name, any(25)); break;
            case "pairs": invoke(face, name, random.nextInt(3) == 0 ? 0 : 10 + someone()); break;
            case "walk": invoke(face, name, any(2)); break;
            case "prices": invoke(face, name, any(60), any(60), any(1)); break;
            case "weight": invoke(face, name, rarelyNone(any(random.nextBoolean() ? 12 : 200))); break;
            case "balance": invoke(face, name, any(random.nextBoolean() ? 60 : 1000), any(2)); break;
            case "cold": invoke(face, name, someone(), orNone(any(6))); break;
            case "alike": invoke(face, name, someone(), orNone(someone())); break;
            case "herd": invoke(face, name, rarelyNone(any(30))); break;
            case "pens": invoke(face, name, any(4), any(1)); break;
            case "left": invoke(face, name, someone(), any(1)); break;
            case "signs": invoke(face, name, any(12)); break;
            case "row": invoke(face, name, rarelyNone(any(20))); break;
            case "game": case "look": invoke(face, name, any(name.equals("game") ? 2 : 11)); break;
            case "image": invoke(face, name, random.nextInt(3) > 0); break;
            default: invoke(face, name); break;
        }
    }

    private void invoke(Method[] face, String name, Object... args) throws Exception {
        for (Method m : face) {
            if (m.getName().equals(name)) {
                Object got = m.invoke(fair, args);
                Object want = Model.class.getDeclaredMethod(name, m.getParameterTypes()).invoke(model, args);
                done.append(' ').append(name).append(Arrays.toString(args));
                boolean same = got.equals(want);
                wrong += same ? 0 : 1;
                Check.due(same ? name : "run " + run + ":" + done, number(got), number(want));
            }
        }
    }

    private static long number(Object answer) {
        return answer instanceof Boolean ? (Boolean) answer ? 1 : 0 : (Integer) answer;
    }

    // Texts.

    private int tell(Method[] face, int k) throws Exception {
        StringBuilder text = new StringBuilder();
        int lines = random.nextInt(12) == 0 ? 17 : random.nextInt(6);
        for (int i = 0; i < lines; i++) {
            text.append(k == 0 ? lawLine() : k == 1 ? fairLine() : k == 2 ? habitLine() : kinLine());
        }
        if (random.nextInt(4) == 0) {
            spoil(text);
        }
        if (text.length() > 400) {
            text.setLength(400);
        }
        invoke(face, "end", 0);
        int feeds = (text.length() + 19) / 20;
        for (int i = 0; i < feeds; i++) {
            Integer[] w = {0, 0, 0, 0, 0};
            for (int j = 0; j < 20; j++) {
                int at = 20 * i + j;
                w[j / 4] = w[j / 4] << 8 | (at < text.length() ? text.charAt(at) & 255 : ' ');
            }
            invoke(face, "feed", (Object[]) w);
        }
        invoke(face, "end", text.length());
        invoke(face, "text", k);
        invoke(face, "fault", 0);
        invoke(face, "fault", 1);
        invoke(face, "look", 11);
        return feeds + 5;
    }

    private void spoil(StringBuilder text) {
        int at = random.nextInt(text.length() + 1);
        switch (random.nextInt(4)) {
            case 0: text.insert(at, WORDS[random.nextInt(WORDS.length)]); break;
            case 1: text.setLength(at); break;
            case 2: if (at < text.length()) text.deleteCharAt(at); break;
            default: if (at < text.length()) text.setCharAt(at, (char) random.nextInt(256)); break;
        }
    }

    private int today() {
        return model.s.day + random.nextInt(3);
    }

    private int gross(int least, int most) {
        return random.nextInt(60) == 0 ? most + 1 : least + random.nextInt(most - least + 1);
    }

    private int told(int count) {
        return random.nextInt(60) == 0 ? count : random.nextInt(Math.max(1, count));
    }

    private String fairLine() {
        return "on " + today() + " person " + told(model.s.people.size()) + " horse " + told(model.s.horses.size())
                + " at " + gross(0, random.nextBoolean() ? 999 : 9998) + " grip " + gross(1, 9) + ";";
    }

    private String habitLine() {
        String who = " " + told(model.s.people.size());
        switch (random.nextInt(7)) {
            case 0: return "on " + today() + " glove" + who + ";";
            case 1: case 2: return "on " + today() + " bare" + who + ";";
            case 3: return "on " + today() + "sling" + who + ";";
            case 4: case 5: return "on " + today() + " pay" + who + " " + gross(1, 999) + ";\n";
            default: return "on " + today() + " cold" + who + " " + gross(0, 4) + " " + gross(1, 99) + " ; ";
        }
    }

    private String kinLine() {
        return "person " + told(model.s.people.size()) + " kin " + told(model.s.people.size()) + ";";
    }

    private String lawLine() {
        String[] words = {"passes ", "holds ", "asks "};
        String when = random.nextInt(3) == 0 ? "" : " when " + condition(random.nextInt(3));
        return words[random.nextInt(3)] + sum() + when + ";";
    }

    private String condition(int deep) {
        StringBuilder s = new StringBuilder(single(deep));
        while (random.nextInt(3) == 0) {
            s.append(random.nextBoolean() ? " and " : " or ").append(single(deep));
        }
        return s.toString();
    }

    private String single(int deep) {
        if (deep > 0 && random.nextBoolean()) {
            return random.nextBoolean() ? "not " + single(deep - 1 + random.nextInt(2))
                    : "(" + condition(deep - 1 + random.nextInt(2)) + ")";
        }
        return sum() + "<=>".charAt(random.nextInt(3)) + sum();
    }

    private String sum() {
        StringBuilder s = new StringBuilder(unit());
        while (random.nextInt(2) == 0) {
            int what = random.nextInt(4);
            s.append("+-*/".charAt(what)).append(what == 3 ? "" + gross(random.nextInt(30) == 0 ? 0 : 1, 12) : unit());
        }
        return s.toString();
    }

    private String unit() {
        return random.nextInt(3) == 0 ? "" + random.nextInt(random.nextBoolean() ? 10 : 1000)
                : WORDS[random.nextInt(11)];
    }
}
