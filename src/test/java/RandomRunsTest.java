import java.util.Random;

/** Runs of random calls, each answer compared with that of Model. */
public final class RandomRunsTest {
    private static final String[] WORDS = {"wall", "home", "shop", "grave", "stove", "wide", "person", "wants", "weight",
        "reach", "rent", "wind", "rule", "or", "and", "not", "column", "story", "length", "kind", "out", "shops", "above",
        ";", "(", ")", "+", "-", "*", "/", "<", "=", "0", "1", "2", "7", "12", "100", "9999", "10000", "x", "!", "\n"};

    private final Random random;
    private int columns;
    private int stories;
    private int drawers;

    private RandomRunsTest(int seed) {
        random = new Random(seed);
    }

    public static void main(String[] args) {
        int runs = args.length > 0 ? Integer.parseInt(args[0]) : 250;
        int from = args.length > 1 ? Integer.parseInt(args[1]) : 0;
        for (int seed = from; seed < from + runs; seed++) {
            new RandomRunsTest(seed).run("run " + seed + ": ");
        }
        Checks.end();
    }

    private void run(String name) {
        DrawerWall wall = new DrawerWall();
        Model model = new Model();
        for (int calls = 0; calls < 400;) {
            String text = text();
            for (int i = 0; i < text.length(); i += 20) {
                int[] n = new int[5];
                for (int j = 0; j < 20; j++) {
                    n[j / 4] = n[j / 4] << 8 | (i + j < text.length() ? text.charAt(i + j) : ' ');
                }
                Checks.same(name + "feed", wall.feed(n[0], n[1], n[2], n[3], n[4]), model.feed(n));
                calls++;
            }
            int length = random.nextInt(20) == 0 ? text.length() + random.nextInt(40) - 10 : text.length();
            same(name, wall, model, "city", length, 0, 0);
            same(name, wall, model, "fault", 0, 0, 0);
            drawers = wall.count(2);
            int some = random.nextInt(100);
            for (int i = 0; i < some; i++, calls++) {
                anyCall(name, wall, model);
            }
        }
    }

    private static final String[] CALLS = {"count", "drawer", "person", "may", "broken", "undo", "sleeps", "opens", "shuts",
        "bread", "row", "harm", "married", "rent", "wind", "who", "odds", "image", "restore", "fault"};

    private void anyCall(String name, DrawerWall wall, Model model) {
        String call = random.nextInt(3) == 0 ? "move" : CALLS[random.nextInt(CALLS.length)];
        int a = random.nextInt(20) == 0 ? random.nextInt(14) - 2 : random.nextInt(Math.max(1, drawers));
        int b = random.nextInt(9) - 1;
        int c = random.nextInt(4) - (random.nextInt(9) == 0 ? 1 : 0);
        if (call.equals("count")) {
            a = random.nextInt(15) - 1;
        } else if (call.equals("may") || call.equals("broken")) {
            a = random.nextInt((1 << drawers) + 1) - (random.nextInt(50) == 0 ? 1 : 0);
        } else if (call.equals("wind")) {
            a = random.nextInt();
            b = random.nextInt(30) == 0 ? random.nextInt(100) - 20 : random.nextInt(3);
        } else if (call.equals("sleeps")) {
            b = random.nextInt(4);
        } else if (call.equals("married")) {
            b = random.nextInt(drawers + 1);
            for (int i = 0; i < 40 && !areNeighbours(wall, a, b); i++) {
                a = random.nextInt(drawers + 1);
                b = random.nextInt(drawers + 1);
            }
        }
        same(name, wall, model, call, a, b, c);
        if (random.nextInt(4) == 0) {
            for (int what = 6; what <= 12; what++) {
                same(name, wall, model, "count", what, 0, 0);
            }
        }
        if (call.equals("opens") || call.equals("shuts") || call.equals("bread")) {
            for (int i = -1; i < 8; i++) {
                same(name, wall, model, "row", i, 0, 0);
            }
        }
    }

    private boolean areNeighbours(DrawerWall wall, int a, int b) {
        return a >= 0 && a < drawers && b < drawers && wall.drawer(a, 2) == wall.drawer(b, 2) && wall.drawer(a, 0) == 0
            && wall.drawer(b, 0) == 0 && Math.abs(wall.drawer(a, 1) - wall.drawer(b, 1)) == 1;
    }

    private static void same(String name, DrawerWall wall, Model model, String call, int a, int b, int c) {
        Checks.same(name + call + "(" + a + ", " + b + ", " + c + ")", answer(wall, call, a, b, c), answer(model, call, a, b, c));
    }

    private static long thrown(RuntimeException e) {
        return 1000000000000L + e.getClass().getName().hashCode();
    }

    private static long answer(DrawerWall w, String call, int a, int b, int c) {
        try {
            switch (call) {
                case "city": return w.city(a);
                case "fault": return w.fault();
                case "count": return w.count(a);
                case "drawer": return w.drawer(a, b);
                case "person": return w.person(a, b);
                case "may": return w.may(a) ? 1 : 0;
                case "broken": return w.broken(a);
                case "move": return w.move(a);
                case "undo": return w.undo();
                case "sleeps": w.sleeps(a, b == 0); return 0;
                case "opens": return w.opens(a);
                case "shuts": return w.shuts(a);
                case "bread": return w.bread();
                case "row": return w.row(a);
                case "harm": return w.harm(a);
                case "married": return w.married(a, b);
                case "rent": return w.rent();
                case "wind": return w.wind(a, b);
                case "who": return w.who(a);
                case "odds": return w.odds(a, b, c);
                case "image": w.image(); return 0;
                default: return w.restore() ? 1 : 0;
            }
        } catch (RuntimeException e) {
            return thrown(e);
        }
    }

    private static long answer(Model m, String call, int a, int b, int c) {
        try {
            switch (call) {
                case "city": return m.city(a);
                case "fault": return m.fault();
                case "count": return m.count(a);
                case "drawer": return m.drawer(a, b);
                case "person": return m.person(a, b);
                case "may": return m.may(a) ? 1 : 0;
                case "broken": return m.broken(a);
                case "move": return m.move(a);
                case "undo": return m.undo();
                case "sleeps": m.sleeps(a, b == 0); return 0;
                case "opens": return m.opens(a);
                case "shuts": return m.shuts(a);
                case "bread": return m.bread();
                case "row": return m.row(a);
                case "harm": return m.harm(a);
                case "married": return m.married(a, b);
                case "rent": return m.rent();
                case "wind": return m.wind(a, b);
                case "who": return m.who(a);
                case "odds": return m.odds(a, b, c);
                case "image": m.image(); return 0;
                default: return m.restore() ? 1 : 0;
            }
        } catch (RuntimeException e) {
            return thrown(e);
        }
    }

    /** A city, often a right one; sometimes one token of it is another one, or all are by chance. */
    private String text() {
        StringBuilder b = new StringBuilder();
        int kind = random.nextInt(10);
        if (kind == 0) {
            for (int i = random.nextInt(12); i > 0; i--) {
                b.append(WORDS[random.nextInt(WORDS.length)]).append(' ');
            }
            return b.toString();
        }
        city(b);
        if (kind < 4 && b.length() > 0) {
            int at = random.nextInt(b.length());
            b.replace(at, Math.min(b.length(), at + random.nextInt(4)), random.nextInt(3) == 0 ? ""
                : WORDS[random.nextInt(WORDS.length)]);
        }
        return b.substring(0, Math.min(b.length(), 690));
    }

    private void city(StringBuilder b) {
        columns = 3;
        stories = 4;
        if (random.nextInt(4) != 0) {
            columns = 1 + random.nextInt(4);
            stories = 1 + random.nextInt(7);
            b.append("wall ").append(columns).append(' ').append(stories).append(';');
        }
        if (random.nextBoolean()) {
            b.append("reach ").append(1 + random.nextInt(4)).append(";\n");
        }
        drawers(b);
        for (int i = random.nextInt(4) - 1; i > 0; i--) {
            b.append("rule ");
            expr(b, 0, random.nextInt(12) == 0 ? 30 : 3);
            b.append(random.nextInt(4) == 0 ? ";" : " or out < " + (2 + random.nextInt(3)) + ";");
        }
        if (random.nextBoolean()) {
            b.append("wind ").append(random.nextInt(400)).append(';');
        }
        if (random.nextBoolean()) {
            b.append("rent ").append(random.nextInt(100)).append(' ').append(random.nextInt(100)).append(' ')
                .append(random.nextInt(101)).append(';');
        }
    }

    private void drawers(StringBuilder b) {
        boolean[][] taken = new boolean[columns + 1][stories];
        int[] kinds = new int[11];
        int wanted = 1 + random.nextInt(6) + random.nextInt(5);
        drawers = 0;
        for (int i = 0; i < 40 && drawers < Math.min(wanted, 10); i++) {
            int c = random.nextInt(columns);
            int s = random.nextInt(stories);
            if (taken[c][s] && random.nextInt(100) != 0) {
                continue;
            }
            int kind = new int[] {0, 0, 0, 0, 1, 1, 1, 2, 3}[random.nextInt(9)];
            boolean wide = random.nextInt(4) == 0 && c + 1 < columns && !taken[c + 1][s];
            taken[c][s] = true;
            taken[c + 1][s] |= wide;
            int length = Math.max(1, Math.min(9, 8 - s + random.nextInt(4) - random.nextInt(3)));
            b.append(WORDS[1 + kind]).append(' ').append(c).append(' ').append(s).append(' ').append(length)
                .append(wide ? " wide;" : ";");
            kinds[drawers] = kind;
            drawers++;
        }
        int people = 0;
        for (int i = random.nextInt(20); i > 0 && drawers > 0 && people < 5; i--) {
            int home = random.nextInt(drawers);
            int shop = random.nextInt(drawers);
            if ((kinds[home] != 0 || kinds[shop] != 1 && random.nextInt(3) != 0) && random.nextInt(100) != 0) {
                continue;
            }
            people++;
            b.append("person ").append(home);
            if (kinds[shop] == 1 || random.nextInt(50) == 0) {
                b.append(" wants ").append(shop);
            }
            b.append(random.nextBoolean() ? " weight " + random.nextInt(13) + ";" : ";");
        }
    }

    private void expr(StringBuilder b, int within, int left) {
        for (int i = random.nextInt(3); i > 0; i--) {
            if (random.nextInt(3) == 0) {
                b.append("not ");
            }
            part(b, within, left - 1);
            b.append(new String[] {"+", "-", "*", "/", "<", "=", " or ", " and "}[random.nextInt(8)]);
        }
        part(b, within, left - 1);
    }

    private void part(StringBuilder b, int within, int left) {
        if (left > 0 && within < 8 && random.nextInt(3) != 0) {
            b.append('(');
            expr(b, within + 1, left - 1);
            b.append(')');
        } else {
            b.append(random.nextBoolean() ? WORDS[16 + random.nextInt(7)] : "" + random.nextInt(6));
        }
    }
}
