import java.util.NoSuchElementException;

/** What all tests of the project share: feeding texts, and counting answers that are not as due. */
final class Checks {
    interface Call {
        void run();
    }

    private static int wrong = 0;

    private Checks() {
    }

    static void same(String call, long got, long due) {
        if (got != due) {
            wrong++;
            System.out.println(call + " answered " + got + ", due is " + due);
        }
    }

    static void same(String call, boolean got, boolean due) {
        same(call, got ? 1 : 0, due ? 1 : 0);
    }

    static void noSuchElement(String call, Call run) {
        throwsExactly(call, NoSuchElementException.class, run);
    }

    static void illegalArgument(String call, Call run) {
        throwsExactly(call, IllegalArgumentException.class, run);
    }

    private static void throwsExactly(String call, Class<?> due, Call run) {
        String got = "nothing";
        try {
            run.run();
        } catch (RuntimeException e) {
            got = e.getClass().getName();
        }
        if (!got.equals(due.getName())) {
            wrong++;
            System.out.println(call + " threw " + got + ", due is " + due.getName());
        }
    }

    /** Feeds a text, filled up with blanks to a whole number of feeds. */
    static void feed(DrawerWall wall, String text) {
        for (int i = 0; i < text.length(); i += 20) {
            wall.feed(number(text, i), number(text, i + 4), number(text, i + 8), number(text, i + 12),
                number(text, i + 16));
        }
    }

    private static int number(String text, int from) {
        int number = 0;
        for (int i = from; i < from + 4; i++) {
            number = number << 8 | (i < text.length() ? text.charAt(i) & 255 : ' ');
        }
        return number;
    }

    static int tell(DrawerWall wall, String text) {
        feed(wall, text);
        return wall.city(text.length());
    }

    /** A new wall of a text that must be without fault. */
    static DrawerWall wall(String text) {
        DrawerWall wall = new DrawerWall();
        same("city: " + text, tell(wall, text), 0);
        return wall;
    }

    /** A FAULT whose place is where the text has its '@', which is left out; without one it is the text's length. */
    static void fault(int fault, String marked) {
        int place = marked.indexOf('@');
        String text = place < 0 ? marked : marked.substring(0, place) + marked.substring(place + 1);
        DrawerWall wall = new DrawerWall();
        same("city: " + marked, tell(wall, text), fault);
        same("fault: " + marked, wall.fault(), place < 0 ? text.length() : place);
        same("refused: " + marked, wall.count(11), 1);
        same("no drawers: " + marked, wall.count(2), 0);
    }

    /** A text without a FAULT. */
    static void fine(String text) {
        same("fault: " + text, wall(text).fault(), DrawerWall.NONE);
    }

    /** All that can be asked of a wall without changing it, for a look at what stays. */
    static String all(DrawerWall wall) {
        StringBuilder all = new StringBuilder();
        for (int what = 0; what <= 12; what++) {
            all.append(wall.count(what)).append(' ');
        }
        for (int d = 0; d < wall.count(2); d++) {
            for (int what = 0; what <= 7; what++) {
                all.append(what == 0 ? " | " : " ").append(wall.drawer(d, what));
            }
        }
        for (int p = 0; p < wall.count(3); p++) {
            for (int what = 0; what <= 4; what++) {
                all.append(what == 0 ? " : " : " ").append(wall.person(p, what));
            }
        }
        all.append(" fault ").append(wall.fault()).append(" row ").append(rowOf(wall));
        return all.toString();
    }

    private static String rowOf(DrawerWall wall) {
        StringBuilder row = new StringBuilder();
        try {
            int length = wall.row(DrawerWall.NONE);
            for (int i = 0; i < length; i++) {
                row.append(wall.row(i)).append(' ');
            }
        } catch (NoSuchElementException e) {
            row.append("none");
        }
        return row.toString();
    }

    /** Whether a wall is as it was; the text of it was made by all(). */
    static void stays(String call, DrawerWall wall, String was) {
        String is = all(wall);
        if (!is.equals(was)) {
            wrong++;
            System.out.println(call + " changed " + was + " into " + is);
        }
    }

    static void row(String name, DrawerWall wall, int... due) {
        same(name + " row(NONE)", wall.row(DrawerWall.NONE), due.length);
        for (int i = 0; i < due.length && i < wall.row(DrawerWall.NONE); i++) {
            same(name + " row(" + i + ")", wall.row(i), due[i]);
        }
    }

    static void end() {
        System.out.println(wrong == 0 ? "all answers are as due" : wrong + " answers are not as due");
        if (wrong != 0) {
            System.exit(1);
        }
    }
}
