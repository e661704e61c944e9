import com.sun.management.ThreadMXBean;
import java.lang.management.ManagementFactory;

/**
 * All calls of one run live in one room of some 600,000 objects and 7.3 million fields and elements: what a run makes,
 * by bytes. An element is counted as four bytes, as most are ints; the room is then 29 million bytes.
 */
public final class RoomTest {
    private static final int CALLS = 512;
    private static final long MOST_OF_AN_OBJECT = 24_000;
    private static final long MOST_OF_A_RUN = 300_000;
    private static final String LARGE = "wall 6 9;reach 9;home 0 0 9;home 1 0 9;home 2 0 9;home 3 0 9;home 4 0 9;shop 5 0 9;"
        + "shop 5 1 8;shop 5 2 7;shop 5 3 6;shop 5 4 5;person 0 wants 5;person 1 wants 6;person 2 wants 7;person 3 wants 8;"
        + "person 4 wants 9;rule out<99;rule not(length<1);";

    private static final ThreadMXBean ROOM = (ThreadMXBean) ManagementFactory.getThreadMXBean();

    public static void main(String[] args) {
        newObject();
        searches();
        cities();
        refusedCities();
        otherCalls();
        Checks.end();
    }

    private static long made() {
        return ROOM.getCurrentThreadAllocatedBytes();
    }

    private static void atMost(String what, long from, long most) {
        long bytes = made() - from;
        Checks.same(what + ": " + bytes + " bytes of at most " + most, bytes <= most, true);
    }

    private static int[] numbers(String text) {
        int[] numbers = new int[(text.length() + 19) / 20 * 5];
        for (int i = 0; i < numbers.length * 4; i++) {
            numbers[i / 4] = numbers[i / 4] << 8 | (i < text.length() ? text.charAt(i) : ' ');
        }
        return numbers;
    }

    private static int feed(DrawerWall wall, int[] n) {
        for (int i = 0; i + 4 < n.length; i += 5) {
            wall.feed(n[i], n[i + 1], n[i + 2], n[i + 3], n[i + 4]);
        }
        return n.length / 5;
    }

    private static void newObject() {
        new DrawerWall();
        long from = made();
        DrawerWall wall = new DrawerWall();
        atMost("a new object", from, MOST_OF_AN_OBJECT);
        Checks.same("it is empty", wall.count(2), 0);
    }

    private static void searches() {
        int[] text = numbers(LARGE);
        long from = made();
        DrawerWall wall = new DrawerWall();
        int calls = feed(wall, text);
        Checks.same("the large city", wall.city(LARGE.length()), 0);
        Checks.same("all have bread", wall.bread(), 10);
        wall.sleeps(9, true);
        for (int i = calls; i < CALLS; i += 5) {
            Checks.same("one never has", wall.bread(), DrawerWall.NONE);
            wall.opens(i % 10);
            wall.shuts(i % 10);
            wall.harm(i % 10);
            wall.married(i % 4, i % 4 + 1);
        }
        atMost("searches", from, MOST_OF_A_RUN);
    }

    private static void cities() {
        int[] text = numbers("home 0 0 9;rule 1;");
        long from = made();
        DrawerWall wall = new DrawerWall();
        for (int i = 0; i < CALLS; i += 2) {
            feed(wall, text);
            wall.city(18);
        }
        Checks.same("RULES", wall.count(5), 1);
        atMost("cities", from, MOST_OF_A_RUN);
    }

    private static void refusedCities() {
        long from = made();
        DrawerWall wall = new DrawerWall();
        for (int i = 0; i < CALLS; i += 2) {
            wall.feed(-1, 0, 0, 0, 0);
            wall.city(1);
        }
        Checks.same("TEXTS with a FAULT", wall.count(11), CALLS / 2);
        atMost("refused cities", from, MOST_OF_A_RUN);
    }

    private static void otherCalls() {
        int[] text = numbers(LARGE);
        long from = made();
        DrawerWall wall = new DrawerWall();
        int calls = feed(wall, text);
        wall.city(LARGE.length());
        for (int i = calls; i < CALLS; i += 12) {
            wall.move(i % 10);
            wall.image();
            wall.move(i % 7);
            wall.undo();
            wall.may(i);
            wall.broken(i);
            wall.who(i % 10);
            wall.odds(i % 10, i % 5, 0);
            wall.drawer(i % 10, 6);
            wall.rent();
            wall.wind(i, 1);
            wall.restore();
        }
        atMost("other calls", from, MOST_OF_AN_OBJECT + 8 * CALLS);
    }
}
