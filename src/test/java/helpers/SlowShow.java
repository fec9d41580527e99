import java.util.ArrayDeque;
import java.util.ArrayList;
import java.util.Deque;
import java.util.HashMap;
import java.util.HashSet;
import java.util.List;
import java.util.Map;
import java.util.Set;
import java.util.function.ToIntFunction;

/**
 * The document once more, told slowly and in another way (trees, maps, all ways tried one by one), for the class to be
 * compared with. It has the face of UnderstudyShow.
 */
public final class SlowShow {
    private record Figure(String name, int hour, int kind, int size) { }

    private record Claim(int part, int v, boolean so) { }

    private interface Term {
        int at(Map<String, Integer> facts);
    }

    private static final class DividedByZero extends RuntimeException {
        private static final long serialVersionUID = 1;
    }

    private static final class Fault extends RuntimeException {
        private static final long serialVersionUID = 1;
        final int number;
        final int place;

        Fault(int number, int place) {
            this.number = number;
            this.place = place;
        }
    }

    private static final class World {
        int day;
        int dogs;
        int[] hours;
        int[] partHours;
        int[] marks;
        Set<Integer> off = new HashSet<>();
        Map<String, Integer> seen = new HashMap<>();

        World copy() {
            World w = new World();
            w.day = day;
            w.dogs = dogs;
            w.hours = hours.clone();
            w.partHours = partHours.clone();
            w.marks = marks.clone();
            w.off.addAll(off);
            w.seen.putAll(seen);
            return w;
        }

        int seen(int person, int part) {
            return seen.getOrDefault(person + ":" + part, 0);
        }
    }

    private static final class Text {
        List<Figure> people = new ArrayList<>();
        List<Figure> parts = new ArrayList<>();
        Map<String, Term> laws = new HashMap<>();
        int least = 1;
        int seed = 0;

        Text() {
            laws.put("stands", f -> 10 - f.get("apart") - f.get("unlike") - f.get("odd"));
            laws.put("writes", f -> 0);
            laws.put("marks", f -> 1);
            laws.put("dogs", f -> 0);
        }
    }

    private final StringBuilder tape = new StringBuilder();
    private int latestPlace = -1;
    private Text text = new Text();
    private World now = begin(text);
    private final Deque<World> past = new ArrayDeque<>();
    private final World[] slots = new World[3];
    private final List<Claim> told = new ArrayList<>();

    private static World begin(Text text) {
        World w = new World();
        w.hours = text.people.stream().mapToInt(Figure::hour).toArray();
        w.partHours = text.parts.stream().mapToInt(Figure::hour).toArray();
        w.marks = new int[text.people.size()];
        return w;
    }

    // ---- texts: tokens first, then a parser that throws its fault ----

    private static final Set<String> VARS =
            Set.of("apart", "unlike", "odd", "day", "seen", "hour", "kind", "size", "which");
    private static final Set<String> WORDS = new HashSet<>(VARS);

    static {
        WORDS.addAll(Set.of("person", "part", "stands", "writes", "marks", "dogs", "least", "seed"));
        WORDS.addAll(Set.of("if", "then", "else"));
    }

    private static final class Parser {
        final String s;
        final Text text = new Text();
        final Set<String> names = new HashSet<>();
        Fault later = null;
        int at = 0;
        int taken = 0;

        Parser(String s) {
            this.s = s;
        }

        void skip() {
            while (at < s.length() && "\t\n\r ".indexOf(s.charAt(at)) >= 0) {
                at++;
            }
        }

        String run(String pattern) {
            int end = at;
            while (end < s.length() && String.valueOf(s.charAt(end)).matches(pattern)) {
                end++;
            }
            return s.substring(at, end);
        }

        /** The token at hand; "" at the end, "?" for what is none. */
        String peek() {
            skip();
            if (at == s.length()) {
                return "";
            }
            String letters = run("[a-z]");
            String digits = run("[0-9]");
            if (letters.length() > 8 || digits.length() > 4) {
                return "?";
            }
            if (!letters.isEmpty() || !digits.isEmpty()) {
                return letters + digits;
            }
            return ";=+-*/<()".indexOf(s.charAt(at)) >= 0 ? s.substring(at, at + 1) : "?";
        }

        boolean isName() {
            return peek().matches("[a-z]+") && !WORDS.contains(peek());
        }

        String take(boolean good) {
            String token = peek();
            if (!good) {
                throw new Fault(1, at);
            }
            if (taken == 400) {
                throw new Fault(2, at);
            }
            taken++;
            at += token.length();
            return token;
        }

        String take(String token) {
            return take(peek().equals(token));
        }

        void late(int number) {
            if (later == null) {
                later = new Fault(number, at);
            }
        }

        int number(int most) {
            peek();
            int value = peek().matches("[0-9]+") ? Integer.parseInt(peek()) : 0;
            if (value > most) {
                late(5);
            }
            take(peek().matches("[0-9]+"));
            return value;
        }

        void all() {
            while (!peek().isEmpty()) {
                String word = peek();
                if (word.equals("person") || word.equals("part")) {
                    figure(word.equals("person") ? text.people : text.parts, word.equals("person") ? 7 : 6);
                } else if (text.laws.containsKey(word)) {
                    take(word);
                    take("=");
                    text.laws.put(word, law(0));
                } else if (word.equals("least")) {
                    take(word);
                    text.least = number(99);
                } else {
                    take("seed");
                    text.seed = number(9999);
                }
                take(";");
            }
            if (later != null) {
                throw later;
            }
        }

        void figure(List<Figure> list, int most) {
            if (list.size() == most) {
                throw new Fault(2, at);
            }
            take(true);
            String name = peek();
            if (isName() && !names.add(name)) {
                late(3);
            }
            take(isName());
            list.add(new Figure(name, number(23), number(9), number(9)));
        }

        Term law(int ifs) {
            if (!peek().equals("if")) {
                return sum(0);
            }
            if (ifs == 4) {
                throw new Fault(2, at);
            }
            take("if");
            Term less = sum(0);
            take("<");
            Term greater = sum(0);
            take("then");
            Term then = sum(0);
            take("else");
            Term rest = law(ifs + 1);
            return f -> less.at(f) < greater.at(f) ? then.at(f) : rest.at(f);
        }

        Term sum(int depth) {
            Term sum = product(depth);
            while (peek().equals("+") || peek().equals("-")) {
                boolean plus = take(true).equals("+");
                Term left = sum;
                Term right = product(depth);
                sum = plus ? f -> left.at(f) + right.at(f) : f -> left.at(f) - right.at(f);
            }
            return sum;
        }

        Term product(int depth) {
            Term product = unit(depth);
            while (peek().equals("*") || peek().equals("/")) {
                boolean times = take(true).equals("*");
                Term left = product;
                Term right = unit(depth);
                product = times ? f -> left.at(f) * right.at(f) : f -> divided(left.at(f), right.at(f));
            }
            return product;
        }

        static int divided(int left, int right) {
            if (right == 0) {
                throw new DividedByZero();
            }
            return left / right;
        }

        Term unit(int depth) {
            String token = peek();
            if (token.equals("(")) {
                if (depth == 6) {
                    throw new Fault(2, at);
                }
                take("(");
                Term inner = sum(depth + 1);
                take(")");
                return inner;
            }
            take(token.matches("[0-9]+") || VARS.contains(token));
            return VARS.contains(token) ? f -> f.get(token) : f -> Integer.parseInt(token);
        }
    }

    public int feed(int a, int b, int c, int d, int e) {
        if (tape.length() + 20 > 2000) {
            return -1;
        }
        for (int four : new int[] {a, b, c, d, e}) {
            tape.append((char) (four >> 24 & 255)).append((char) (four >> 16 & 255));
            tape.append((char) (four >> 8 & 255)).append((char) (four & 255));
        }
        return tape.length();
    }

    public int back(int n) {
        if (n < 0 || n > tape.length()) {
            return -1;
        }
        tape.setLength(tape.length() - n);
        return tape.length();
    }

    public int read() {
        Parser parser = new Parser(tape.toString());
        tape.setLength(0);
        latestPlace = -1;
        try {
            parser.all();
        } catch (Fault fault) {
            latestPlace = fault.place;
            return fault.number;
        }
        text = parser.text;
        now = begin(text);
        past.clear();
        told.clear();
        for (int i = 0; i < 3; i++) {
            slots[i] = null;
        }
        return 0;
    }

    public int place() {
        return latestPlace;
    }

    // ---- laws ----

    private static int round(int a, int b) {
        int there = Math.floorMod(a - b, 24);
        int other = Math.floorMod(b - a, 24);
        return there < other ? there : other;
    }

    private int law(String law, World w, int person, int part) {
        Figure p = text.people.get(person);
        Figure q = text.parts.get(part);
        Map<String, Integer> f = new HashMap<>();
        f.put("apart", round(w.hours[person], w.partHours[part]));
        f.put("unlike", Math.abs(p.kind - q.kind));
        f.put("odd", Math.abs(p.size - q.size));
        f.put("day", w.day);
        f.put("seen", w.seen(person, part));
        f.put("hour", w.hours[person]);
        f.put("kind", p.kind);
        f.put("size", p.size);
        f.put("which", part);
        int value;
        try {
            value = text.laws.get(law).at(f);
        } catch (DividedByZero zero) {
            value = 0;
        }
        int most = law.equals("dogs") ? 100 : 99;
        return value < 0 ? 0 : value > most ? most : value;
    }

    private int stands(World w, int person, int part) {
        return law("stands", w, person, part);
    }

    private static int lot(int n, int seed, int which) {
        long mask = 0xFFFFFFFFL;
        long h = seed & mask;
        for (int it : new int[] {143, which}) {
            h = ((h ^ (it & mask)) * 1103515245L + 12345L) & mask;
            h = h ^ (h >> 15);
        }
        return (int) ((h >> 1) % n);
    }

    private int people() {
        return text.people.size();
    }

    private int parts() {
        return text.parts.size();
    }

    /** part -> person */
    private Map<Integer, Integer> cast(World w) {
        Map<Integer, Integer> cast = new HashMap<>();
        for (int part = 0; part < parts(); part++) {
            int best = -1;
            for (int person = 0; person < people(); person++) {
                if (w.off.contains(person) || cast.containsValue(person) || stands(w, person, part) < text.least) {
                    continue;
                }
                if (best < 0 || stands(w, person, part) > stands(w, best, part)) {
                    best = person;
                }
            }
            if (best >= 0) {
                cast.put(part, best);
            }
        }
        return cast;
    }

    private int castAs(Map<Integer, Integer> cast, int person) {
        for (Map.Entry<Integer, Integer> e : cast.entrySet()) {
            if (e.getValue() == person) {
                return e.getKey();
            }
        }
        return -2;
    }

    private int total(World w) {
        int sum = 0;
        for (Map.Entry<Integer, Integer> e : cast(w).entrySet()) {
            sum += stands(w, e.getValue(), e.getKey());
        }
        return sum;
    }

    private World after(World old, int n, int seed, boolean dogs) {
        World w = old;
        for (int i = 0; i < n; i++) {
            w = nextDay(w, seed, dogs);
        }
        return w;
    }

    private World nextDay(World old, int seed, boolean dogs) {
        World w = old.copy();
        for (Map.Entry<Integer, Integer> e : cast(old).entrySet()) {
            int part = e.getKey();
            int person = e.getValue();
            w.seen.merge(person + ":" + part, 1, Integer::sum);
            w.marks[person] = Math.min(999999, w.marks[person] + law("marks", old, person, part));
            int ahead = Math.floorMod(old.hours[person] - old.partHours[part], 24);
            if (law("writes", old, person, part) > 0 && ahead != 0) {
                w.partHours[part] = Math.floorMod(w.partHours[part] + (ahead <= 12 ? 1 : -1), 24);
            }
            if (dogs && lot(100, seed, 8 * old.day + part) < law("dogs", old, person, part)) {
                w.partHours[part] = Math.floorMod(w.partHours[part] + 1, 24);
                w.dogs++;
            }
        }
        w.day = old.day + 1;
        return w;
    }

    // ---- the rest of the face ----

    private boolean noPerson(int person) {
        return person < 0 || person >= people();
    }

    private boolean noPart(int part) {
        return part < 0 || part >= parts();
    }

    private static boolean out(int value, int low, int high) {
        return value < low || value > high;
    }

    public int person(int person, int what) {
        if (noPerson(person) || out(what, 0, 6)) {
            return -1;
        }
        Figure p = text.people.get(person);
        int seen = 0;
        for (int part = 0; part < parts(); part++) {
            seen += now.seen(person, part);
        }
        return new int[] {now.hours[person], p.kind, p.size, now.marks[person], now.off.contains(person) ? 1 : 0,
            castAs(cast(now), person), seen}[what];
    }

    public int part(int part, int what) {
        if (noPart(part) || out(what, 0, 5)) {
            return -1;
        }
        Figure q = text.parts.get(part);
        Integer who = cast(now).get(part);
        return new int[] {now.partHours[part], q.kind, q.size, who == null ? -2 : who, q.hour,
            who == null ? 0 : law("dogs", now, who, part)}[what];
    }

    public int tells(int person, int part, int what) {
        if (noPerson(person) || noPart(part) || out(what, 0, 4)) {
            return -1;
        }
        return new int[] {stands(now, person, part), law("writes", now, person, part),
            law("marks", now, person, part), now.seen(person, part), round(now.hours[person], now.partHours[part])}[what];
    }

    private void remember() {
        past.push(now);
        now = now.copy();
        if (past.size() > 40) {
            past.removeLast();
        }
    }

    public boolean move(int person, int hour) {
        if (noPerson(person) || out(hour, 0, 23) || now.hours[person] == hour) {
            return false;
        }
        remember();
        now.hours[person] = hour;
        return true;
    }

    public boolean write(int part, int hour) {
        if (noPart(part) || out(hour, 0, 23) || now.partHours[part] == hour) {
            return false;
        }
        remember();
        now.partHours[part] = hour;
        return true;
    }

    public boolean keepOff(int person, boolean off) {
        if (noPerson(person) || now.off.contains(person) == off) {
            return false;
        }
        remember();
        if (off) {
            now.off.add(person);
        } else {
            now.off.remove(person);
        }
        return true;
    }

    public int days(int n) {
        if (out(n, 0, 60)) {
            return -1;
        }
        if (n > 0) {
            remember();
            now = after(now, n, text.seed, true);
        }
        return now.day;
    }

    public boolean undo() {
        if (past.isEmpty()) {
            return false;
        }
        now = past.pop();
        return true;
    }

    public int empty() {
        Map<Integer, Integer> cast = cast(now);
        int bits = 0;
        for (int part = 0; part < parts(); part++) {
            bits += cast.containsKey(part) ? 0 : 1 << part;
        }
        return bits;
    }

    private static final int NOBODY = 99;

    /** All ways, in the order in which the document likes them; nobody behind all. */
    private void ways(int least, boolean nobodyToo, List<Integer> soFar, List<List<Integer>> all) {
        int part = soFar.size();
        if (part == parts()) {
            all.add(new ArrayList<>(soFar));
            return;
        }
        for (int person = 0; person < people(); person++) {
            if (!soFar.contains(person) && !now.off.contains(person) && stands(now, person, part) >= least) {
                soFar.add(person);
                ways(least, nobodyToo, soFar, all);
                soFar.remove(soFar.size() - 1);
            }
        }
        if (nobodyToo) {
            soFar.add(NOBODY);
            ways(least, nobodyToo, soFar, all);
            soFar.remove(soFar.size() - 1);
        }
    }

    private List<List<Integer>> ways(int least, boolean nobodyToo) {
        List<List<Integer>> all = new ArrayList<>();
        ways(least, nobodyToo, new ArrayList<>(), all);
        return all;
    }

    private static int greatest(List<List<Integer>> all, ToIntFunction<List<Integer>> worth) {
        int best = Integer.MIN_VALUE;
        for (List<Integer> way : all) {
            best = Math.max(best, worth.applyAsInt(way));
        }
        return best;
    }

    private int[][] table() {
        int[][] table = new int[people()][parts()];
        for (int person = 0; person < people(); person++) {
            for (int part = 0; part < parts(); part++) {
                table[person][part] = stands(now, person, part);
            }
        }
        return table;
    }

    private int sum(int[][] table, List<Integer> way) {
        int sum = 0;
        for (int part = 0; part < way.size(); part++) {
            sum += way.get(part) == NOBODY ? 0 : table[way.get(part)][part];
        }
        return sum;
    }

    public int given(int i) {
        if (i != -1 && noPart(i)) {
            return -1;
        }
        List<List<Integer>> all = ways(text.least, true);
        int[][] table = table();
        int most = greatest(all, way -> sum(table, way));
        if (i == -1) {
            return most;
        }
        for (List<Integer> way : all) {
            if (sum(table, way) == most) {
                return way.get(i) == NOBODY ? -2 : way.get(i);
            }
        }
        throw new IllegalStateException();
    }

    public int costs(int person, int part) {
        if (noPerson(person) || noPart(part)) {
            return -1;
        }
        if (now.off.contains(person)) {
            return -2;
        }
        for (int hours = 0; hours <= 12; hours++) {
            for (int way : new int[] {-1, 1}) {
                World w = now.copy();
                w.hours[person] = Math.floorMod(w.hours[person] + way * hours, 24);
                if (stands(w, person, part) >= text.least) {
                    return hours;
                }
            }
        }
        return -2;
    }

    public int whole() {
        int[][] costs = new int[people()][parts()];
        for (int person = 0; person < people(); person++) {
            for (int part = 0; part < parts(); part++) {
                int cost = costs(person, part);
                costs[person][part] = cost == -2 ? 1000000 : cost;
            }
        }
        List<List<Integer>> all = ways(0, false);
        int fewest = -greatest(all, way -> -sum(costs, way));
        return all.isEmpty() || fewest >= 1000000 ? -2 : fewest;
    }

    public int rather(int what) {
        if (out(what, 0, 1)) {
            return -1;
        }
        Map<Integer, Integer> cast = cast(now);
        List<Integer> pairs = new ArrayList<>();
        for (int person = 0; person < people(); person++) {
            for (int part = 0; part < parts(); part++) {
                int as = castAs(cast, person);
                int is = as == -2 ? 0 : stands(now, person, as);
                int other = cast.containsKey(part) ? stands(now, cast.get(part), part) : 0;
                int would = stands(now, person, part);
                if (!now.off.contains(person) && would >= text.least && would > is && would > other) {
                    pairs.add(10 * person + part);
                }
            }
        }
        return what == 0 ? pairs.size() : pairs.isEmpty() ? -2 : pairs.get(0);
    }

    public int ways() {
        return ways(text.least, false).size();
    }

    public int fairest() {
        if (parts() == 0) {
            return 0;
        }
        List<List<Integer>> all = ways(0, false);
        int[][] table = table();
        return all.isEmpty() ? -2 : greatest(all, way -> {
            int least = 1000;
            for (int part = 0; part < parts(); part++) {
                least = Math.min(least, table[way.get(part)][part]);
            }
            return least;
        });
    }

    public int bestHour(int person, int what) {
        if (noPerson(person) || out(what, 0, 1)) {
            return -1;
        }
        int most = -1;
        int best = -1;
        for (int far = 0; far <= 12; far++) {
            for (int hour = 0; hour < 24; hour++) {
                if (round(hour, now.hours[person]) == far) {
                    World w = now.copy();
                    w.hours[person] = hour;
                    if (total(w) > most) {
                        most = total(w);
                        best = hour;
                    }
                }
            }
        }
        return what == 0 ? best : most;
    }

    public int trade(int person, int other) {
        if (noPerson(person) || noPerson(other) || person == other) {
            return -100000;
        }
        World w = now.copy();
        w.hours[person] = now.hours[other];
        w.hours[other] = now.hours[person];
        return total(w) - total(now);
    }

    private World without(int person) {
        World w = now.copy();
        w.off.add(person);
        return w;
    }

    public int key() {
        int bits = 0;
        for (int person = 0; person < people(); person++) {
            boolean more = cast(without(person)).size() < cast(now).size();
            bits += !now.off.contains(person) && more ? 1 << person : 0;
        }
        return bits;
    }

    public int crowd(int what) {
        if (out(what, 0, 1)) {
            return -1;
        }
        int[] many = new int[24];
        for (int hour : now.hours) {
            many[hour]++;
        }
        for (int hour : now.partHours) {
            many[hour]++;
        }
        int best = 0;
        for (int hour = 23; hour >= 0; hour--) {
            best = many[hour] >= many[best] ? hour : best;
        }
        return what == 0 ? best : many[best];
    }

    public int habit(int person, int what) {
        if (noPerson(person) || out(what, 0, 1)) {
            return -1;
        }
        int best = -2;
        for (int part = parts() - 1; part >= 0; part--) {
            int often = now.seen(person, part);
            best = often > 0 && (best == -2 || often >= now.seen(person, best)) ? part : best;
        }
        return best == -2 ? -2 : what == 0 ? best : now.seen(person, best);
    }

    public int regular(int part, int what) {
        if (noPart(part) || out(what, 0, 1)) {
            return -1;
        }
        int best = -2;
        for (int person = people() - 1; person >= 0; person--) {
            int often = now.seen(person, part);
            best = often > 0 && (best == -2 || often >= now.seen(best, part)) ? person : best;
        }
        return best == -2 ? -2 : what == 0 ? best : now.seen(best, part);
    }

    public int settles() {
        World w = now;
        for (int day = 0; day <= 100; day++) {
            World next = nextDay(w, 0, false);
            if (java.util.Arrays.equals(w.partHours, next.partHours)) {
                return day;
            }
            w = next;
        }
        return -2;
    }

    public int missed(int what) {
        if (out(what, 0, 1)) {
            return -1;
        }
        int best = -2;
        for (int person = people() - 1; person >= 0; person--) {
            if (!now.off.contains(person) && (best == -2 || total(without(person)) <= total(without(best)))) {
                best = person;
            }
        }
        return best == -2 || what == 0 ? best : total(without(best));
    }

    public int drift(int part, int n) {
        if (noPart(part) || out(n, 1, 60)) {
            return -1;
        }
        return round(after(now, n, 0, false).partHours[part], now.partHours[part]);
    }

    public int meet(int what) {
        if (out(what, 0, 1)) {
            return -1;
        }
        World w = now;
        for (int day = 0; day <= 100; day++) {
            for (int pair = 0; pair < 100; pair++) {
                int lesser = pair / 10;
                int other = pair % 10;
                if (lesser < other && other < parts() && w.partHours[lesser] == w.partHours[other]) {
                    return what == 0 ? day : pair;
                }
            }
            w = nextDay(w, 0, false);
        }
        return -2;
    }

    public int away() {
        int sum = 0;
        for (int part = 0; part < parts(); part++) {
            sum += round(now.partHours[part], text.parts.get(part).hour);
        }
        return sum;
    }

    public int then(int part, int n, int what) {
        if (noPart(part) || out(n, 0, 60) || out(what, 0, 1)) {
            return -1;
        }
        World w = after(now, n, text.seed, true);
        return what == 0 ? w.partHours[part] : cast(w).getOrDefault(part, -2);
    }

    public int marksIn(int person, int n) {
        return noPerson(person) || out(n, 0, 60) ? -1 : after(now, n, text.seed, true).marks[person];
    }

    public int star(int n, int what) {
        if (out(n, 1, 60) || out(what, 0, 1)) {
            return -1;
        }
        World w = after(now, n, 0, false);
        int best = -2;
        for (int person = people() - 1; person >= 0; person--) {
            int more = w.marks[person] - now.marks[person];
            best = best == -2 || more >= w.marks[best] - now.marks[best] ? person : best;
        }
        return best == -2 || what == 0 ? best : w.marks[best] - now.marks[best];
    }

    public int year(int n, int s) {
        if (out(n, 0, 60) || out(s, 1, 20)) {
            return -1;
        }
        int good = 0;
        for (int seed = text.seed; seed < text.seed + s; seed++) {
            good += cast(after(now, n, seed, true)).size() == parts() ? 1 : 0;
        }
        return good;
    }

    public int tell(int part, int v, boolean so) {
        if (told.size() == 20 || noPart(part) || out(v, 0, 99)) {
            return -1;
        }
        told.add(new Claim(part, v, so));
        return told.size() - 1;
    }

    public int forget() {
        int many = told.size();
        told.clear();
        return many;
    }

    private Set<Integer> left(int k) {
        Set<Integer> left = new HashSet<>();
        for (int person = 0; person < people(); person++) {
            left.add(person);
        }
        for (Claim claim : told.subList(0, k)) {
            left.removeIf(person -> stands(now, person, claim.part) >= claim.v != claim.so);
        }
        return left;
    }

    public int who(int k, int what) {
        if (out(k, 0, told.size()) || out(what, 0, 1)) {
            return -1;
        }
        return what == 0 ? left(k).size() : left(k).stream().mapToInt(person -> 1 << person).sum();
    }

    public int ask(int k, int v) {
        if (out(k, 0, told.size()) || out(v, 0, 99)) {
            return -1;
        }
        Set<Integer> left = left(k);
        if (left.isEmpty()) {
            return -2;
        }
        int best = -2;
        int fewest = 100;
        for (int i = 0; i < parts(); i++) {
            int part = i;
            int yes = (int) left.stream().filter(person -> stands(now, person, part) >= v).count();
            int worst = Math.max(yes, left.size() - yes);
            if (worst < fewest) {
                fewest = worst;
                best = part;
            }
        }
        return best;
    }

    public boolean hold(int slot) {
        if (out(slot, 0, 2)) {
            return false;
        }
        slots[slot] = now.copy();
        return true;
    }

    public boolean restore(int slot) {
        if (out(slot, 0, 2) || slots[slot] == null) {
            return false;
        }
        now = slots[slot].copy();
        past.clear();
        return true;
    }

    public int count(int what) {
        if (out(what, 0, 13)) {
            return -1;
        }
        Map<Integer, Integer> cast = cast(now);
        int marks = 0;
        for (int each : now.marks) {
            marks += each;
        }
        int held = 0;
        for (World slot : slots) {
            held += slot == null ? 0 : 1;
        }
        int idle = 0;
        int off = 0;
        for (int person = 0; person < people(); person++) {
            off += now.off.contains(person) ? 1 << person : 0;
            idle += now.off.contains(person) || cast.containsValue(person) ? 0 : 1 << person;
        }
        int apart = 0;
        for (Map.Entry<Integer, Integer> e : cast.entrySet()) {
            apart += round(now.hours[e.getValue()], now.partHours[e.getKey()]);
        }
        return new int[] {people(), parts(), now.day, cast.size(), total(now), marks, off, now.dogs, tape.length(),
            past.size(), told.size(), held, idle, apart}[what];
    }
}
