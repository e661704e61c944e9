import java.util.ArrayList;
import java.util.Arrays;
import java.util.HashMap;
import java.util.LinkedHashMap;
import java.util.List;
import java.util.Map;
import java.util.NoSuchElementException;

/** The document once more, written plainly and slowly with the Java library: what RandomRunsTest compares with. */
final class Model {
    static final class Fault extends RuntimeException {
        private static final long serialVersionUID = 1L;
        final int code;
        final int place;

        Fault(int code, int place) {
            this.code = code;
            this.place = place;
        }
    }

    interface Expr {
        int of(City city, List<Integer> out, Drawer d);
    }

    static final class Drawer {
        int kind;
        int story;
        int length;
        List<Integer> columns = new ArrayList<>();

        boolean shares(Drawer other) {
            return columns.stream().anyMatch(other.columns::contains);
        }
    }

    static final class Person {
        int home;
        int shop = -1;
        int weight = 1;
    }

    static final class City {
        int columns = 3;
        int stories = 4;
        int reach = 2;
        int[] rent = new int[3];
        int chance;
        List<Drawer> drawers = new ArrayList<>();
        List<Person> people = new ArrayList<>();
        List<Expr> rules = new ArrayList<>();

        boolean reaches(int d, List<Integer> out) {
            Drawer drawer = drawers.get(d);
            if (drawer.story < reach) {
                return true;
            }
            for (int e : out) {
                Drawer step = drawers.get(e);
                if (step.story < drawer.story && step.story + reach >= drawer.story && step.shares(drawer)
                    && reaches(e, out)) {
                    return true;
                }
            }
            return false;
        }

        int broken(List<Integer> out) {
            for (int r = 0; r < rules.size(); r++) {
                for (int d : out) {
                    if (rules.get(r).of(this, out, drawers.get(d)) == 0) {
                        return r;
                    }
                }
            }
            return -1;
        }

        boolean may(List<Integer> out) {
            for (int a : out) {
                if (drawers.get(a).kind == 2) {
                    return false;
                }
                for (int b : out) {
                    Drawer low = drawers.get(a);
                    Drawer high = drawers.get(b);
                    if (low.story < high.story && low.shares(high) && !(low.length > high.length)) {
                        return false;
                    }
                }
            }
            return broken(out) == -1;
        }

        int rent(int d) {
            Drawer drawer = drawers.get(d);
            int sum = rent[0] + rent[1] * drawer.story + rent[2] * drawer.length;
            return drawer.kind == 2 ? 0 : sum * drawer.columns.size();
        }
    }

    /** Reads a text by its list of tokens. */
    static final class Reader {
        final List<String> tokens = new ArrayList<>();
        final List<Integer> places = new ArrayList<>();
        final City city = new City();
        final List<String> told = new ArrayList<>();
        int at;

        Reader(String text) {
            java.util.regex.Matcher m = java.util.regex.Pattern.compile("[a-z]+|[0-9]+|[^ \n]", java.util.regex.Pattern.DOTALL)
                .matcher(text);
            while (m.find()) {
                tokens.add(m.group());
                places.add(m.start());
            }
            tokens.add("");
            places.add(text.length());
        }

        City read() {
            while (!is("")) {
                line();
                demand(";");
            }
            return city;
        }

        String token() {
            return tokens.get(at);
        }

        boolean is(String... some) {
            return Arrays.asList(some).contains(token());
        }

        boolean isNumber() {
            return token().matches("[0-9]+");
        }

        void refuseIf(boolean wrong, int code) {
            if (wrong) {
                throw new Fault(code, places.get(at));
            }
        }

        void demand(String sign) {
            refuseIf(!is(sign), 1);
            at++;
        }

        boolean took(String... some) {
            if (is(some)) {
                at++;
                return true;
            }
            return false;
        }

        int peek(int least, int most) {
            refuseIf(!isNumber(), 1);
            refuseIf(token().length() > 4, 2);
            int n = Integer.parseInt(token());
            refuseIf(n < least || n > most, 2);
            return n;
        }

        int number(int least, int most) {
            int n = peek(least, most);
            at++;
            return n;
        }

        boolean taken(int column, int story) {
            return city.drawers.stream().anyMatch(d -> d.story == story && d.columns.contains(column));
        }

        void line() {
            String word = token();
            List<String> kinds = List.of("home", "shop", "grave", "stove");
            refuseIf(!kinds.contains(word) && !is("wall", "person", "reach", "rent", "wind", "rule"), 1);
            refuseIf(kinds.contains(word) && city.drawers.size() == 10, 2);
            refuseIf(is("person") && city.people.size() == 5, 2);
            refuseIf(is("rule") && city.rules.size() == 4, 2);
            refuseIf(is("wall") && at != 0, 4);
            refuseIf(is("reach", "rent", "wind") && told.contains(word), 4);
            told.add(word);
            at++;
            if (kinds.contains(word)) {
                drawer(kinds.indexOf(word));
            } else if (word.equals("person")) {
                person();
            } else if (word.equals("wall")) {
                city.columns = number(1, 6);
                city.stories = number(1, 9);
            } else if (word.equals("reach")) {
                city.reach = number(1, 9);
            } else if (word.equals("rent")) {
                for (int i = 0; i < 3; i++) {
                    city.rent[i] = number(0, 99);
                }
            } else if (word.equals("wind")) {
                city.chance = number(0, 1000);
            } else {
                city.rules.add(or(0));
            }
        }

        void drawer(int kind) {
            Drawer d = new Drawer();
            d.kind = kind;
            d.columns.add(number(0, city.columns - 1));
            d.story = peek(0, city.stories - 1);
            refuseIf(taken(d.columns.get(0), d.story), 5);
            at++;
            d.length = number(1, 9);
            if (is("wide")) {
                int next = d.columns.get(0) + 1;
                refuseIf(next == city.columns, 2);
                refuseIf(taken(next, d.story), 5);
                d.columns.add(next);
                at++;
            }
            city.drawers.add(d);
        }

        int drawerOf(int kind) {
            int d = peek(0, 9999);
            refuseIf(d >= city.drawers.size(), 3);
            refuseIf(city.drawers.get(d).kind != kind, 5);
            at++;
            return d;
        }

        void person() {
            Person p = new Person();
            p.home = drawerOf(0);
            if (took("wants")) {
                p.shop = drawerOf(1);
            }
            if (took("weight")) {
                p.weight = number(0, 99);
            }
            city.people.add(p);
        }

        Expr or(int within) {
            refuseIf(within == 6 && (isNumber() || token().matches("[a-z]+") || is("(")), 2);
            Expr left = and(within);
            while (took("or")) {
                Expr a = left;
                Expr b = and(within);
                left = (c, o, d) -> a.of(c, o, d) != 0 | b.of(c, o, d) != 0 ? 1 : 0;
            }
            return left;
        }

        Expr and(int within) {
            Expr left = not(within, 1);
            while (took("and")) {
                Expr a = left;
                Expr b = not(within, 1);
                left = (c, o, d) -> a.of(c, o, d) != 0 & b.of(c, o, d) != 0 ? 1 : 0;
            }
            return left;
        }

        Expr not(int within, int nth) {
            if (is("not")) {
                refuseIf(nth == 7, 2);
                at++;
                Expr a = not(within, nth + 1);
                return (c, o, d) -> a.of(c, o, d) == 0 ? 1 : 0;
            }
            Expr a = sum(within);
            if (took("<")) {
                Expr b = sum(within);
                return (c, o, d) -> a.of(c, o, d) < b.of(c, o, d) ? 1 : 0;
            }
            if (took("=")) {
                Expr b = sum(within);
                return (c, o, d) -> a.of(c, o, d) == b.of(c, o, d) ? 1 : 0;
            }
            return a;
        }

        Expr sum(int within) {
            Expr left = product(within);
            while (is("+", "-")) {
                boolean plus = is("+");
                at++;
                Expr a = left;
                Expr b = product(within);
                left = (c, o, d) -> plus ? a.of(c, o, d) + b.of(c, o, d) : a.of(c, o, d) - b.of(c, o, d);
            }
            return left;
        }

        Expr product(int within) {
            Expr left = part(within);
            while (is("*", "/")) {
                boolean times = is("*");
                at++;
                Expr a = left;
                Expr b = part(within);
                left = (c, o, d) -> {
                    int y = b.of(c, o, d);
                    return times ? a.of(c, o, d) * y : y == 0 ? 0 : a.of(c, o, d) / y;
                };
            }
            return left;
        }

        Expr part(int within) {
            if (took("(")) {
                Expr inside = or(within + 1);
                demand(")");
                return inside;
            }
            if (isNumber()) {
                int n = peek(0, 9999);
                at++;
                return (c, o, d) -> n;
            }
            String word = token();
            refuseIf(!word.matches("[a-z]+"), 1);
            refuseIf(!List.of("column", "story", "length", "kind", "out", "shops", "above").contains(word), 3);
            at++;
            return (c, o, d) -> value(word, c, o, d);
        }

        static int value(String word, City c, List<Integer> out, Drawer d) {
            switch (word) {
                case "column": return d.columns.get(0);
                case "story": return d.story;
                case "length": return d.length;
                case "kind": return d.kind;
                case "out": return out.size();
                case "shops": return (int) out.stream().filter(e -> c.drawers.get(e).kind == 1).count();
                default: return (int) out.stream().map(c.drawers::get).filter(e -> e.story > d.story && e.shares(d)).count();
            }
        }
    }

    /** What an image keeps. */
    static final class State {
        int out;
        int asleep;
        int fed;
        int[] hurt = new int[5];
        List<int[]> moves = new ArrayList<>();
        int[] status = new int[2];

        State copy() {
            State s = new State();
            s.out = out;
            s.asleep = asleep;
            s.fed = fed;
            s.hurt = hurt.clone();
            s.moves = new ArrayList<>(moves);
            s.status = status.clone();
            return s;
        }
    }

    private String tape = "";
    private int place = -1;
    private City city = new City();
    private State now = new State();
    private State image;
    private List<Integer> row;

    static List<Integer> bits(int set) {
        List<Integer> list = new ArrayList<>();
        for (int d = 0; d < 32; d++) {
            if ((set & 1 << d) != 0) {
                list.add(d);
            }
        }
        return list;
    }

    int feed(int... numbers) {
        if (tape.length() + 20 > 700) {
            return -1;
        }
        for (int n : numbers) {
            for (int shift = 24; shift >= 0; shift -= 8) {
                tape += (char) (n >> shift & 255);
            }
        }
        return tape.length();
    }

    int city(int n) {
        if (n < 0 || n > tape.length()) {
            throw new IllegalArgumentException();
        }
        String text = tape.substring(0, n);
        tape = "";
        try {
            city = new Reader(text).read();
        } catch (Fault f) {
            place = f.place;
            now.status[0]++;
            return f.code;
        }
        place = -1;
        int[] status = now.status;
        now = new State();
        now.status = status;
        image = null;
        row = null;
        return 0;
    }

    int fault() {
        return place;
    }

    int count(int what) {
        int[] all = {city.columns, city.stories, city.drawers.size(), city.people.size(), city.reach, city.rules.size(),
            now.out, now.moves.size(), now.fed, now.asleep, tape.length(), now.status[0], now.status[1]};
        return pick(all, what);
    }

    private static int pick(int[] all, int what) {
        if (what < 0 || what >= all.length) {
            throw new NoSuchElementException();
        }
        return all[what];
    }

    private void check(int drawer) {
        if (drawer < 0 || drawer >= city.drawers.size()) {
            throw new NoSuchElementException();
        }
    }

    int drawer(int drawer, int what) {
        check(drawer);
        Drawer d = city.drawers.get(drawer);
        int[] all = {d.kind, d.columns.get(0), d.story, d.length, d.columns.size() - 1, now.out >> drawer & 1,
            city.reaches(drawer, bits(now.out)) ? 1 : 0, city.rent(drawer)};
        return pick(all, what);
    }

    int person(int person, int what) {
        if (person < 0 || person >= city.people.size()) {
            throw new NoSuchElementException();
        }
        Person p = city.people.get(person);
        return pick(new int[] {p.home, p.shop, p.weight, now.fed >> person & 1, now.hurt[person]}, what);
    }

    private void checkSet(int set) {
        if (set < 0 || set >= 1 << city.drawers.size()) {
            throw new IllegalArgumentException();
        }
    }

    boolean may(int set) {
        checkSet(set);
        return city.may(bits(set));
    }

    int broken(int set) {
        checkSet(set);
        return city.broken(bits(set));
    }

    private static boolean free(City c, int out, int asleep, int d) {
        return (asleep & 1 << d) == 0 && c.reaches(d, bits(out)) && c.may(bits(out ^ 1 << d));
    }

    private static int fed(City c, int out, int fed) {
        int all = fed;
        for (int p = 0; p < c.people.size(); p++) {
            Person who = c.people.get(p);
            if (who.shop >= 0 && bits(out).contains(who.home) && bits(out).contains(who.shop)) {
                all |= 1 << p;
            }
        }
        return all;
    }

    int move(int d) {
        int trouble = 0;
        if (d < 0 || d >= city.drawers.size()) {
            trouble = 1;
        } else if ((now.asleep & 1 << d) != 0) {
            trouble = 2;
        } else if (!city.reaches(d, bits(now.out))) {
            trouble = 3;
        } else if (!city.may(bits(now.out ^ 1 << d))) {
            trouble = 4;
        } else if (now.moves.size() == 100) {
            trouble = 5;
        }
        if (trouble != 0) {
            now.status[1]++;
            return trouble;
        }
        now.moves.add(new int[] {now.out, now.fed});
        now.out ^= 1 << d;
        now.fed = fed(city, now.out, now.fed);
        return 0;
    }

    int undo() {
        if (now.moves.isEmpty()) {
            return -1;
        }
        int[] ahead = now.moves.remove(now.moves.size() - 1);
        now.out = ahead[0];
        now.fed = ahead[1];
        return now.moves.size();
    }

    void sleeps(int drawer, boolean sleeps) {
        check(drawer);
        now.asleep &= ~(1 << drawer);
        now.asleep |= sleeps ? 1 << drawer : 0;
    }

    interface Goal {
        boolean met(int out, int fed);
    }

    /** All rows of one length together, the least first, each end once: until one of them meets the goal. */
    private List<Integer> soon(City c, int asleep, Goal goal, Map<List<Integer>, List<Integer>> seen) {
        Map<List<Integer>, List<Integer>> ends = new LinkedHashMap<>();
        ends.put(List.of(now.out, now.fed), List.of());
        while (!ends.isEmpty()) {
            List<Integer> best = null;
            for (Map.Entry<List<Integer>, List<Integer>> e : ends.entrySet()) {
                if (goal.met(e.getKey().get(0), e.getKey().get(1)) && (best == null || less(e.getValue(), best))) {
                    best = e.getValue();
                }
            }
            if (best != null) {
                return best;
            }
            seen.putAll(ends);
            Map<List<Integer>, List<Integer>> next = new LinkedHashMap<>();
            for (Map.Entry<List<Integer>, List<Integer>> e : ends.entrySet()) {
                int out = e.getKey().get(0);
                for (int d = 0; d < c.drawers.size(); d++) {
                    if (free(c, out, asleep, d)) {
                        List<Integer> key = List.of(out ^ 1 << d, fed(c, out ^ 1 << d, e.getKey().get(1)));
                        List<Integer> path = new ArrayList<>(e.getValue());
                        path.add(d);
                        if (!seen.containsKey(key) && (!next.containsKey(key) || less(path, next.get(key)))) {
                            next.put(key, path);
                        }
                    }
                }
            }
            ends = next;
        }
        return null;
    }

    private static boolean less(List<Integer> a, List<Integer> b) {
        for (int i = 0; i < a.size(); i++) {
            if (!a.get(i).equals(b.get(i))) {
                return a.get(i) < b.get(i);
            }
        }
        return false;
    }

    private int keep(List<Integer> found) {
        if (found == null) {
            return -1;
        }
        row = found;
        return found.size();
    }

    int opens(int drawer) {
        check(drawer);
        return keep(soon(city, now.asleep, (out, fed) -> (out & 1 << drawer) != 0, new HashMap<>()));
    }

    int shuts(int drawer) {
        check(drawer);
        return keep(soon(city, now.asleep, (out, fed) -> (out & 1 << drawer) == 0, new HashMap<>()));
    }

    private List<Integer> breadSoon(City c, int asleep) {
        return soon(c, asleep, (out, fed) -> {
            for (int p = 0; p < c.people.size(); p++) {
                if (c.people.get(p).shop >= 0 && (fed & 1 << p) == 0) {
                    return false;
                }
            }
            return true;
        }, new HashMap<>());
    }

    int bread() {
        return keep(breadSoon(city, now.asleep));
    }

    int row(int i) {
        if (row == null || i < -1 || i >= row.size()) {
            throw new NoSuchElementException();
        }
        return i == -1 ? row.size() : row.get(i);
    }

    int harm(int drawer) {
        check(drawer);
        return ever(drawer, now.asleep & ~(1 << drawer)) - ever(drawer, now.asleep | 1 << drawer);
    }

    private int ever(int drawer, int asleep) {
        Map<List<Integer>, List<Integer>> seen = new HashMap<>();
        soon(city, asleep, (out, fed) -> false, seen);
        int all = 0;
        for (List<Integer> key : seen.keySet()) {
            all |= key.get(0);
        }
        return Integer.bitCount(all & ~(1 << drawer));
    }

    int married(int a, int b) {
        check(a);
        check(b);
        Drawer x = city.drawers.get(a);
        Drawer y = city.drawers.get(b);
        boolean can = x.kind == 0 && y.kind == 0 && x.story == y.story && x.columns.size() == 1 && y.columns.size() == 1
            && Math.abs(x.columns.get(0) - y.columns.get(0)) == 1 && ((now.out | now.asleep) & (1 << a | 1 << b)) == 0;
        List<Integer> single = can ? breadSoon(city, now.asleep) : null;
        if (single == null) {
            return -101;
        }
        City c = new City();
        c.columns = city.columns;
        c.stories = city.stories;
        c.reach = city.reach;
        c.rules = city.rules;
        c.drawers = new ArrayList<>(city.drawers);
        Drawer wide = new Drawer();
        wide.story = x.story;
        wide.length = Math.max(x.length, y.length);
        wide.columns = List.of(Math.min(x.columns.get(0), y.columns.get(0)), Math.max(x.columns.get(0), y.columns.get(0)));
        c.drawers.set(a, wide);
        Drawer gone = new Drawer();
        gone.kind = 2;
        c.drawers.set(b, gone);
        for (Person p : city.people) {
            Person q = new Person();
            q.home = p.home == b ? a : p.home;
            q.shop = p.shop;
            c.people.add(q);
        }
        List<Integer> wed = breadSoon(c, now.asleep);
        return wed == null ? -101 : wed.size() - single.size();
    }

    int rent() {
        int sum = 0;
        for (int d = 0; d < city.drawers.size(); d++) {
            sum += city.rent(d);
        }
        return sum;
    }

    int wind(int seed, int hours) {
        if (hours < 0 || hours > 60) {
            throw new IllegalArgumentException();
        }
        int slammed = 0;
        int s = seed;
        for (int h = 0; h < hours; h++) {
            for (int d : bits(now.out)) {
                s = s * 1103515245 + 12345;
                if ((s >> 16 & 32767) % 1000 < city.chance * city.drawers.get(d).length) {
                    now.out ^= 1 << d;
                    slammed++;
                    for (int p = 0; p < city.people.size(); p++) {
                        now.hurt[p] += city.people.get(p).home == d && (now.asleep & 1 << d) != 0 ? 1 : 0;
                    }
                }
            }
            now.moves.clear();
        }
        return slammed;
    }

    int who(int drawer) {
        check(drawer);
        if ((now.out & 1 << drawer) == 0) {
            return -1;
        }
        Drawer d = city.drawers.get(drawer);
        int all = 0;
        for (int p = 0; p < city.people.size(); p++) {
            int home = city.people.get(p).home;
            Drawer h = city.drawers.get(home);
            boolean near = false;
            for (int i : d.columns) {
                for (int j : h.columns) {
                    near |= Math.abs(i - j) <= 1;
                }
            }
            if (home != drawer && (now.out & 1 << home) != 0 && near && Math.abs(h.story - d.story) <= city.reach) {
                all |= 1 << p;
            }
        }
        return all;
    }

    int odds(int drawer, int person, int what) {
        check(drawer);
        person(person, 0);
        pick(new int[2], what);
        int all = who(drawer);
        if (all == -1) {
            return -1;
        }
        int sum = 0;
        for (int p : bits(all)) {
            sum += city.people.get(p).weight;
        }
        int upper = bits(all).contains(person) ? city.people.get(person).weight : 0;
        if (sum == 0) {
            return what;
        }
        int g = java.math.BigInteger.valueOf(upper).gcd(java.math.BigInteger.valueOf(sum)).intValue();
        return (what == 0 ? upper : sum) / g;
    }

    void image() {
        image = now.copy();
    }

    boolean restore() {
        if (image == null) {
            return false;
        }
        now = image.copy();
        return true;
    }
}
