import java.util.ArrayDeque;
import java.util.ArrayList;
import java.util.Arrays;
import java.util.Deque;
import java.util.HashMap;
import java.util.HashSet;
import java.util.List;
import java.util.Map;
import java.util.Set;
import java.util.TreeSet;
import java.util.function.ToIntFunction;

/** The document written a second time, as plainly as can be and with the whole Java library; slow ways are fine. */
final class Model {
    static final int NONE = -1;

    static final class Person {
        int[] trait = new int[5];
        int purse;
        int hand;
        int shook;

        Person copy() {
            Person p = new Person();
            p.trait = trait.clone();
            p.purse = purse;
            p.hand = hand;
            p.shook = shook;
            return p;
        }
    }

    static final class Horse {
        int owner;
        int worth;
        int spirit;
        int sold;

        Horse copy() {
            Horse h = new Horse();
            h.owner = owner;
            h.worth = worth;
            h.spirit = spirit;
            h.sold = sold;
            return h;
        }
    }

    /** What the law may look at. */
    static final class View {
        final Map<String, Integer> word = new HashMap<>();
    }

    static final class LawLine {
        String word;
        ToIntFunction<View> sum;
        ToIntFunction<View> when;
    }

    static final class State {
        List<Person> people = new ArrayList<>();
        List<Horse> horses = new ArrayList<>();
        List<int[]> book = new ArrayList<>();
        int passed;
        int held;
        int day;
        int draws;

        State copy() {
            State s = new State();
            for (Person p : people) {
                s.people.add(p.copy());
            }
            for (Horse h : horses) {
                s.horses.add(h.copy());
            }
            s.book.addAll(book);
            s.passed = passed;
            s.held = held;
            s.day = day;
            s.draws = draws;
            return s;
        }
    }

    /** What is told but for the state; the lists are replaced and never changed. */
    static final class Told {
        List<LawLine> law = List.of();
        List<int[]> fair = List.of();
        List<Object[]> habits = List.of();
        List<int[]> kin = List.of();
        List<int[]> clasps = List.of();
        List<Integer> numbers = List.of();
        List<Integer> weights = List.of();
        List<Integer> herds = List.of();
        List<Integer> rows = List.of();

        Told copy() {
            Told t = new Told();
            t.law = law;
            t.fair = fair;
            t.habits = habits;
            t.kin = kin;
            t.clasps = clasps;
            t.numbers = numbers;
            t.weights = weights;
            t.herds = herds;
            t.rows = rows;
            return t;
        }
    }

    State s = new State();
    Told t = new Told();
    Deque<State> past = new ArrayDeque<>();
    State imageState;
    Told imageTold;
    StringBuilder tape = new StringBuilder();
    int fault;
    int faultPlace = NONE;
    boolean thinking;

    static boolean in(int v, int least, int most) {
        return least <= v && v <= most;
    }

    boolean isPerson(int p) {
        return in(p, 0, s.people.size() - 1);
    }

    boolean isHorse(int h) {
        return in(h, 0, s.horses.size() - 1);
    }

    int state(int v) {
        int was = s.draws;
        s.draws = v;
        past.clear();
        return was;
    }

    int person(int purse, int traits) {
        if (!in(purse, 0, 9999) || !in(traits, 0, 999) || s.people.size() == 12) {
            return NONE;
        }
        Person p = new Person();
        p.purse = purse;
        Arrays.fill(p.trait, traits);
        s.people.add(p);
        past.clear();
        return s.people.size() - 1;
    }

    int horse(int owner, int worth, int spirit) {
        if (!isPerson(owner) || !in(worth, 0, 999) || !in(spirit, 0, 9) || s.horses.size() == 10) {
            return NONE;
        }
        Horse h = new Horse();
        h.owner = owner;
        h.worth = worth;
        h.spirit = spirit;
        s.horses.add(h);
        past.clear();
        return s.horses.size() - 1;
    }

    boolean set(int what, int who, int v) {
        if (!in(what, 0, 7) || (what <= 5 ? !isPerson(who) : !isHorse(who))) {
            return false;
        }
        int most = what == 5 ? 9999 : what == 7 ? 9 : 999;
        if (!in(v, 0, most)) {
            return false;
        }
        if (what < 5) {
            s.people.get(who).trait[what] = v;
        } else if (what == 5) {
            s.people.get(who).purse = v;
        } else if (what == 6) {
            s.horses.get(who).worth = v;
        } else {
            s.horses.get(who).spirit = v;
        }
        past.clear();
        return true;
    }

    void keep() {
        past.addLast(s.copy());
        if (past.size() > 6) {
            past.removeFirst();
        }
    }

    // The law.

    boolean areKin(int a, int b) {
        for (int[] k : t.kin) {
            if (k[0] == a && k[1] == b || k[0] == b && k[1] == a) {
                return true;
            }
        }
        return false;
    }

    int law(String word, int one, int other, int horse, int price, int grip, int trait) {
        View v = new View();
        Person me = s.people.get(one);
        Person you = s.people.get(other);
        int which = word.equals("passes") ? trait : 0;
        v.word.put("trait", which);
        v.word.put("own", word.equals("asks") ? 0 : me.trait[which]);
        v.word.put("other", word.equals("asks") ? 0 : you.trait[which]);
        v.word.put("grip", grip);
        v.word.put("price", price);
        v.word.put("worth", horse == NONE ? 0 : s.horses.get(horse).worth);
        v.word.put("spirit", horse == NONE ? 0 : s.horses.get(horse).spirit);
        v.word.put("shook", me.shook);
        v.word.put("purse", me.purse);
        v.word.put("kin", areKin(one, other) ? 1 : 0);
        v.word.put("day", s.day);
        int answer = word.equals("passes") ? 20 * grip : word.equals("holds") ? 100 - 10 * me.shook
                : v.word.get("worth") - 10 * grip;
        for (LawLine line : t.law) {
            if (line.word.equals(word) && (line.when == null || line.when.applyAsInt(v) != 0)) {
                answer = line.sum.applyAsInt(v);
                break;
            }
        }
        int most = word.equals("asks") ? 9999 : 1000;
        return answer < 0 ? 0 : answer > most ? most : answer;
    }

    // Bargains.

    boolean canBuy(int buyer, int horse, int price, int grip) {
        if (!isPerson(buyer) || !isHorse(horse) || !in(price, 0, 9999) || !in(grip, 1, 9)) {
            return false;
        }
        int owner = s.horses.get(horse).owner;
        return owner != buyer && s.people.get(owner).hand != 2 && s.people.get(buyer).hand != 2
                && price <= s.people.get(buyer).purse
                && price >= law("asks", owner, buyer, horse, price, grip, 0);
    }

    void line(int what, int who, int much) {
        if (!thinking && s.book.size() < 150) {
            s.book.add(new int[] {s.day, what, who, much});
        }
    }

    int bargain(int buyer, int horse, int price, int grip) {
        Horse h = s.horses.get(horse);
        int owner = h.owner;
        Person seller = s.people.get(owner);
        int before = seller.purse;
        s.people.get(buyer).purse -= price;
        seller.purse = Math.min(9999, seller.purse + price);
        int came = seller.purse - before;
        h.owner = buyer;
        h.sold++;
        line(0, buyer, price);
        return shake(owner, buyer, horse, price, grip, came);
    }

    int shake(int a, int b, int horse, int price, int grip, int came) {
        Person pa = s.people.get(a);
        Person pb = s.people.get(b);
        pa.shook++;
        pb.shook++;
        if (pa.hand == 1 || pb.hand == 1) {
            return 0;
        }
        int[] wasA = pa.trait.clone();
        int[] wasB = pb.trait.clone();
        int all = 0;
        for (int i = 0; i < 5; i++) {
            int over = wasA[i] * law("passes", a, b, horse, price, grip, i) / 1000;
            int back = wasB[i] * law("passes", b, a, horse, price, grip, i) / 1000;
            // One by one less, till there is room.
            while (wasB[i] - back + over > 999) {
                over--;
            }
            while (wasA[i] - over + back > 999) {
                back--;
            }
            pa.trait[i] = wasA[i] - over + back;
            pb.trait[i] = wasB[i] - back + over;
            all += over + back;
        }
        s.passed += all;
        if (all > 0) {
            line(2, a, all);
        }
        int holds = law("holds", b, a, horse, price, grip, 0);
        boolean on;
        if (thinking) {
            on = holds >= 500;
        } else {
            on = holds > 0 && draw(1000) < holds;
        }
        if (!on) {
            return all;
        }
        pa.trait = wasA;
        pb.trait = wasB;
        s.passed -= all;
        pa.purse -= came;
        pb.purse += came;
        s.held++;
        line(3, b, a);
        return 0;
    }

    int draw(int m) {
        s.draws = s.draws * 1664525 + 1013904223;
        long bits = (s.draws & 0xffffffffL) >> 8;
        return (int) (bits % m);
    }

    int buys(int buyer, int horse, int price, int grip) {
        if (!canBuy(buyer, horse, price, grip)) {
            return NONE;
        }
        keep();
        return bargain(buyer, horse, price, grip);
    }

    int clasp(int a, int b, int grip) {
        if (!isPerson(a) || !isPerson(b) || a == b || !in(grip, 1, 9)
                || s.people.get(a).hand == 2 || s.people.get(b).hand == 2) {
            return NONE;
        }
        keep();
        line(1, a, b);
        return shake(a, b, NONE, 0, grip, 0);
    }

    boolean hand(int person, int v) {
        if (!isPerson(person) || !in(v, 0, 2) || s.people.get(person).hand == v) {
            return false;
        }
        keep();
        s.people.get(person).hand = v;
        return true;
    }

    int day() {
        for (Object[] h : t.habits) {
            if ((Integer) h[0] != s.day) {
                continue;
            }
            Person p = s.people.get((Integer) h[2]);
            String what = (String) h[1];
            if (what.equals("glove")) {
                p.hand = 1;
            } else if (what.equals("bare")) {
                p.hand = 0;
            } else if (what.equals("sling")) {
                p.hand = 2;
            } else if (what.equals("pay")) {
                p.purse = Math.min(9999, p.purse + (Integer) h[3]);
            } else {
                int trait = (Integer) h[3];
                p.trait[trait] = Math.max(0, p.trait[trait] - (Integer) h[4]);
            }
        }
        int n = 0;
        for (int[] f : t.fair) {
            if (f[0] == s.day && canBuy(f[1], f[2], f[3], f[4])) {
                bargain(f[1], f[2], f[3], f[4]);
                n++;
            }
        }
        s.day++;
        return n;
    }

    int days(int n) {
        if (!in(n, 1, 60) || s.day + n > 9999) {
            return NONE;
        }
        int b = 0;
        for (int i = 0; i < n; i++) {
            keep();
            b += day();
        }
        return b;
    }

    // The tape and the texts.

    int feed(int a, int b, int c, int d, int e) {
        if (tape.length() + 20 > 400) {
            return NONE;
        }
        for (int w : new int[] {a, b, c, d, e}) {
            tape.append((char) (w >>> 24 & 255)).append((char) (w >>> 16 & 255));
            tape.append((char) (w >>> 8 & 255)).append((char) (w & 255));
        }
        return tape.length();
    }

    boolean end(int n) {
        if (n < 0 || n > tape.length()) {
            return false;
        }
        tape.setLength(n);
        return true;
    }

    int text(int k) {
        String written = tape.toString();
        tape.setLength(0);
        fault = 0;
        faultPlace = NONE;
        if (!in(k, 0, 3)) {
            return NONE;
        }
        ModelText read = new ModelText(written, s.people.size(), s.horses.size());
        try {
            if (k == 0) {
                t.law = read.law();
                return t.law.size();
            }
            if (k == 1) {
                t.fair = read.fair();
                past.clear();
                return t.fair.size();
            }
            if (k == 2) {
                t.habits = read.habits();
                past.clear();
                return t.habits.size();
            }
            t.kin = read.kin();
            return t.kin.size();
        } catch (ModelText.Fault f) {
            fault = f.kind;
            faultPlace = f.place;
            return NONE;
        }
    }

    int fault(int what) {
        return what == 0 ? fault : what == 1 ? faultPlace : NONE;
    }

    // What is.

    int of(int person, int what) {
        if (!isPerson(person) || !in(what, 0, 8)) {
            return NONE;
        }
        Person p = s.people.get(person);
        if (what < 5) {
            return p.trait[what];
        }
        return what == 5 ? p.purse : what == 6 ? p.hand : what == 7 ? p.shook : kinSet(person);
    }

    int kinSet(int person) {
        int set = 0;
        for (int q = 0; q < s.people.size(); q++) {
            set += areKin(person, q) ? 1 << q : 0;
        }
        return set;
    }

    int horseOf(int horse, int what) {
        if (!isHorse(horse) || !in(what, 0, 3)) {
            return NONE;
        }
        Horse h = s.horses.get(horse);
        return new int[] {h.owner, h.worth, h.spirit, h.sold}[what];
    }

    int passes(int a, int b, int grip, int trait) {
        boolean can = isPerson(a) && isPerson(b) && a != b && in(grip, 1, 9) && in(trait, 0, 4);
        return can ? law("passes", a, b, NONE, 0, grip, trait) : NONE;
    }

    int holds(int a, int b, int grip) {
        boolean can = isPerson(a) && isPerson(b) && a != b && in(grip, 1, 9);
        return can ? law("holds", b, a, NONE, 0, grip, 0) : NONE;
    }

    int asks(int buyer, int horse, int grip) {
        if (!isPerson(buyer) || !isHorse(horse) || !in(grip, 1, 9) || s.horses.get(horse).owner == buyer) {
            return NONE;
        }
        return law("asks", s.horses.get(horse).owner, buyer, horse, 0, grip, 0);
    }

    int book(int i, int what) {
        return in(i, 0, s.book.size() - 1) && in(what, 0, 3) ? s.book.get(i)[what] : NONE;
    }

    int goes(int n, int what) {
        if (!in(n, 1, 60) || !in(what, 0, 3)) {
            return NONE;
        }
        State was = s;
        s = s.copy();
        thinking = true;
        for (int i = 0; i < n; i++) {
            day();
        }
        int purses = 0;
        for (Person p : s.people) {
            purses += p.purse;
        }
        int sold = 0;
        for (Horse h : s.horses) {
            sold += h.sold;
        }
        int answer = new int[] {s.passed, s.held, purses, sold}[what];
        s = was;
        thinking = false;
        return answer;
    }

    int would(int buyer, int horse, int price, int grip) {
        if (!canBuy(buyer, horse, price, grip)) {
            return -1000;
        }
        State was = s;
        s = s.copy();
        thinking = true;
        bargain(buyer, horse, price, grip);
        int answer = s.people.get(buyer).trait[0] - was.people.get(buyer).trait[0];
        s = was;
        thinking = false;
        return answer;
    }

    // What is told for thought.

    static <T> List<T> and(List<T> list, T more) {
        List<T> all = new ArrayList<>(list);
        all.add(more);
        return all;
    }

    int told(int a, int b) {
        if (a == NONE) {
            t.clasps = List.of();
            return 0;
        }
        if (!in(a, 0, 11) || !in(b, 0, 11) || a == b || t.clasps.size() == 16) {
            return NONE;
        }
        t.clasps = and(t.clasps, new int[] {a, b});
        return t.clasps.size();
    }

    int came(int a, int b) {
        if (a == NONE) {
            int[] times = new int[12];
            for (int[] c : t.clasps) {
                times[c[0]]++;
                times[c[1]]++;
            }
            int set = 0;
            for (int i = 0; i < 12; i++) {
                set += times[i] % 2 << i;
            }
            return set;
        }
        if (!in(a, 0, 11) || !in(b, -1, 11)) {
            return NONE;
        }
        List<Set<Integer>> has = new ArrayList<>();
        for (int i = 0; i < 12; i++) {
            has.add(new HashSet<>(Set.of(i)));
        }
        for (int i = 0; i < t.clasps.size(); i++) {
            int[] c = t.clasps.get(i);
            Set<Integer> both = new HashSet<>(has.get(c[0]));
            both.addAll(has.get(c[1]));
            has.set(c[0], both);
            has.set(c[1], new HashSet<>(both));
            if (b != NONE && a != b && has.get(b).contains(a)) {
                return i;
            }
        }
        if (b != NONE) {
            return NONE;
        }
        int set = 0;
        for (int i = 0; i < 12; i++) {
            set += has.get(i).contains(a) ? 1 << i : 0;
        }
        return set;
    }

    int number(int v) {
        if (v == NONE) {
            t.numbers = List.of();
            return 0;
        }
        if (!in(v, 0, 8) || t.numbers.size() == 9) {
            return NONE;
        }
        t.numbers = and(t.numbers, v);
        return t.numbers.size();
    }

    /** The one who shook most shook with those who shook most but for him; and so on. */
    int could() {
        List<Integer> left = new ArrayList<>(t.numbers);
        while (!left.isEmpty()) {
            left.sort((x, y) -> y - x);
            int most = left.remove(0);
            if (most > left.size()) {
                return 0;
            }
            for (int i = 0; i < most; i++) {
                left.set(i, left.get(i) - 1);
                if (left.get(i) < 0) {
                    return 0;
                }
            }
        }
        return 1;
    }

    int ring(int n) {
        if (!in(n, 0, 24)) {
            return NONE;
        }
        long[] ways = new long[25];
        ways[0] = 1;
        for (int i = 2; i <= n; i += 2) {
            for (int across = 1; across < i; across += 2) {
                ways[i] += ways[across - 1] * ways[i - across - 1] % 1000000007;
            }
            ways[i] %= 1000000007;
        }
        return (int) ways[n];
    }

    int pairs(int what) {
        int n = s.people.size();
        if (what != 0 && !in(what, 10, 9 + n)) {
            return NONE;
        }
        int[] with = new int[n];
        Arrays.fill(with, -2);
        best = null;
        bestPairs = -1;
        pairFrom(0, with, 0);
        return what == 0 ? bestPairs : best[what - 10];
    }

    private int[] best;
    private int bestPairs;

    /** All ways in their order, so that the first of those with the most pairs is kept. */
    private void pairFrom(int p, int[] with, int pairs) {
        int n = with.length;
        int free = 0;
        for (int q = p; q < n; q++) {
            free += with[q] == -2 ? 1 : 0;
        }
        if (pairs + free / 2 <= bestPairs) {
            return;
        }
        if (p == n) {
            best = with.clone();
            bestPairs = pairs;
            return;
        }
        if (with[p] != -2) {
            pairFrom(p + 1, with, pairs);
            return;
        }
        for (int q = p + 1; q < n; q++) {
            if (with[q] == -2 && !areKin(p, q)) {
                with[p] = q;
                with[q] = p;
                pairFrom(p + 1, with, pairs + 1);
                with[p] = -2;
                with[q] = -2;
            }
        }
        with[p] = NONE;
        pairFrom(p + 1, with, pairs);
        with[p] = -2;
    }

    /** Tries every walk from everyone; where a walk is stuck it is stuck another time, too. */
    int walk(int what) {
        if (!in(what, 0, 1)) {
            return NONE;
        }
        Set<Integer> lines = new TreeSet<>();
        for (int[] k : t.kin) {
            lines.add(Math.min(k[0], k[1]) * 12 + Math.max(k[0], k[1]));
        }
        List<Integer> all = new ArrayList<>(lines);
        Set<Integer> stuck = new HashSet<>();
        for (int p = 0; p < s.people.size() && !all.isEmpty(); p++) {
            int end = walkFrom(p, all, (1 << all.size()) - 1, stuck);
            if (end != NONE) {
                return what == 1 ? p : end == p ? 2 : 1;
            }
        }
        return what == 1 ? NONE : 0;
    }

    private static int walkFrom(int at, List<Integer> lines, int left, Set<Integer> stuck) {
        if (left == 0) {
            return at;
        }
        if (stuck.contains(left * 12 + at)) {
            return NONE;
        }
        for (int i = 0; i < lines.size(); i++) {
            int a = lines.get(i) / 12;
            int b = lines.get(i) % 12;
            if ((left >> i & 1) == 1 && (a == at || b == at)) {
                int end = walkFrom(a + b - at, lines, left ^ 1 << i, stuck);
                if (end != NONE) {
                    return end;
                }
            }
        }
        stuck.add(left * 12 + at);
        return NONE;
    }

    int prices(int a, int b, int what) {
        if (!in(a, 2, 60) || !in(b, 2, 60) || !in(what, 0, 1)) {
            return NONE;
        }
        boolean[] can = new boolean[7200];
        can[0] = true;
        int greatest = 0;
        int many = 0;
        for (int v = 1; v < can.length; v++) {
            can[v] = v >= a && can[v - a] || v >= b && can[v - b];
            if (!can[v]) {
                greatest = v;
                many++;
            }
        }
        if (greatest > 3600) {
            return NONE;
        }
        return what == 0 ? greatest : many;
    }

    int weight(int v) {
        if (v == NONE) {
            t.weights = List.of();
            return 0;
        }
        if (!in(v, 1, 200) || t.weights.size() == 5) {
            return NONE;
        }
        t.weights = and(t.weights, v);
        return t.weights.size();
    }

    int balance(int v, int what) {
        if (!in(what, 0, 2) || what != 2 && !in(v, 0, 1000)) {
            return NONE;
        }
        Set<Integer> sums = new HashSet<>(Set.of(0));
        for (int w : t.weights) {
            for (int sum : new ArrayList<>(sums)) {
                sums.add(sum + w);
                if (what != 1) {
                    sums.add(sum - w);
                }
            }
        }
        if (what != 2) {
            return sums.contains(v) ? 1 : 0;
        }
        int up = 0;
        while (sums.contains(up + 1)) {
            up++;
        }
        return up;
    }

    int cold(int person, int n) {
        if (!isPerson(person) || !in(n, -1, 20)) {
            return NONE;
        }
        Set<Integer> have = new HashSet<>(Set.of(person));
        int days = 0;
        for (int d = 1; n == NONE || d <= n; d++) {
            Set<Integer> then = new HashSet<>(have);
            for (int h : have) {
                for (int q = 0; q < s.people.size(); q++) {
                    if (areKin(h, q)) {
                        then.add(q);
                    }
                }
            }
            if (then.size() == have.size()) {
                break;
            }
            days++;
            have = then;
        }
        return n == NONE ? days : have.size();
    }

    int alike(int a, int b) {
        if (!isPerson(a) || b != NONE && !isPerson(b)) {
            return NONE;
        }
        if (b != NONE) {
            return apart(a, b);
        }
        int nearest = NONE;
        for (int p = s.people.size() - 1; p >= 0; p--) {
            if (p != a && (nearest == NONE || apart(a, p) <= apart(a, nearest))) {
                nearest = p;
            }
        }
        return nearest;
    }

    int apart(int a, int b) {
        int sum = 0;
        for (int i = 0; i < 5; i++) {
            sum += Math.abs(of(a, i) - of(b, i));
        }
        return sum;
    }

    int herd(int v) {
        if (v == NONE) {
            t.herds = List.of();
            return 0;
        }
        if (!in(v, 1, 30) || t.herds.size() == 7) {
            return NONE;
        }
        t.herds = and(t.herds, v);
        return t.herds.size();
    }

    int pens(int k, int what) {
        if (!in(k, 1, 4) || !in(what, 0, 1)) {
            return NONE;
        }
        int sharings = 1;
        for (int i = 0; i < t.herds.size(); i++) {
            sharings *= k;
        }
        int fullest = 1000;
        int level = 1000;
        for (int way = 0; way < sharings; way++) {
            int[] pen = new int[k];
            int rest = way;
            for (int h : t.herds) {
                pen[rest % k] += h;
                rest /= k;
            }
            Arrays.sort(pen);
            int full = pen[k - 1];
            if (full < fullest) {
                fullest = full;
                level = 1000;
            }
            if (full == fullest) {
                level = Math.min(level, full - pen[0]);
            }
        }
        return what == 0 ? fullest : level;
    }

    int left(int person, int what) {
        if (!isPerson(person) || !in(what, 0, 1)) {
            return NONE;
        }
        int which = 4;
        int led = 0;
        for (int i = 4; i >= 0; i--) {
            which = of(person, i) >= of(person, which) ? i : which;
            boolean most = true;
            for (int p = 0; p < s.people.size(); p++) {
                most &= p == person || of(p, i) < of(person, i);
            }
            led += most ? 1 : 0;
        }
        return what == 0 ? which : led;
    }

    int signs(int n) {
        if (!in(n, 1, 20)) {
            return NONE;
        }
        int ways = 0;
        for (int row = 0; row < 1 << n; row++) {
            boolean good = true;
            for (int i = 0; i < n; i++) {
                boolean up = (row >> i & 1) == 1;
                boolean neighbour = (row >> i + 1 & 1) == 1 || i > 0 && (row >> i - 1 & 1) == 1;
                good &= !up || neighbour;
            }
            ways += good ? 1 : 0;
        }
        return ways;
    }

    int row(int v) {
        if (v == NONE) {
            t.rows = List.of();
            return 0;
        }
        if (!in(v, 1, 20) || t.rows.size() == 6) {
            return NONE;
        }
        t.rows = and(t.rows, v);
        return t.rows.size();
    }

    /** Of one row of each length: the least number that no turn leads to. */
    static int[] heaps() {
        int[] heap = new int[21];
        for (int n = 1; n <= 20; n++) {
            Set<Integer> to = new HashSet<>();
            for (int take = 1; take <= 2; take++) {
                for (int i = 0; i + take <= n; i++) {
                    to.add(heap[i] ^ heap[n - take - i]);
                }
            }
            while (to.contains(heap[n])) {
                heap[n]++;
            }
        }
        return heap;
    }

    int game(int what) {
        if (!in(what, 0, 2)) {
            return NONE;
        }
        int[] heap = heaps();
        for (int r = 0; r < t.rows.size(); r++) {
            int size = t.rows.get(r);
            for (int place = 0; place < size; place++) {
                for (int take = 1; take <= 2 && place + take <= size; take++) {
                    int then = heap[place] ^ heap[size - place - take];
                    for (int other = 0; other < t.rows.size(); other++) {
                        then ^= other == r ? 0 : heap[t.rows.get(other)];
                    }
                    if (then == 0) {
                        return new int[] {r, place, take}[what];
                    }
                }
            }
        }
        return NONE;
    }

    // Undoing, the image, looking.

    boolean undo() {
        if (past.isEmpty()) {
            return false;
        }
        s = past.removeLast();
        return true;
    }

    boolean image(boolean taken) {
        if (taken) {
            imageState = s.copy();
            imageTold = t.copy();
            return true;
        }
        if (imageState == null) {
            return false;
        }
        s = imageState.copy();
        t = imageTold.copy();
        past.clear();
        return true;
    }

    int look(int what) {
        if (!in(what, 0, 11)) {
            return NONE;
        }
        return new int[] {s.people.size(), s.horses.size(), s.passed, s.held, s.day, s.book.size(), s.draws,
            t.law.size(), t.fair.size(), t.habits.size(), t.kin.size(), past.size()}[what];
    }
}
