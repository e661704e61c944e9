import java.util.Arrays;
import java.util.NoSuchElementException;

/** A wall of drawers that are pulled out and pushed in; ../shared/DOC.md says what each call promises. */
public final class DrawerWall {
    public static final int NONE = -1;

    private static final int MOST_BYTES = 700;
    private static final int BYTES_A_NUMBER = 4;
    private static final int BYTES_A_FEED = 20;
    private static final int MOST_DRAWERS = 10;
    private static final int MOST_PEOPLE = 5;
    private static final int MOST_RULES = 4;
    private static final int MOST_MOVES = 100;
    private static final int MOST_HOURS = 60;
    private static final int UNMARRIED = NONE - 100;

    private static final int HOME = 0;
    private static final int SHOP = 1;
    private static final int GRAVE = 2;
    private static final int STOVE = 3;

    private final byte[] tape;
    private int tapeLength;
    private int faultPlace;
    private City wall;
    private City spare;
    private final State now;
    private final State kept;
    private boolean isKept;
    private final Search search;
    private int[] steps;
    private int stepCount;

    public DrawerWall() {
        tape = new byte[MOST_BYTES];
        faultPlace = NONE;
        wall = new City();
        spare = new City();
        now = new State();
        kept = new State();
        search = new Search();
        steps = new int[MOST_DRAWERS];
        stepCount = NONE;
    }

    public int feed(int a, int b, int c, int d, int e) {
        if (tapeLength + BYTES_A_FEED > MOST_BYTES) {
            return NONE;
        }
        append(a);
        append(b);
        append(c);
        append(d);
        append(e);
        return tapeLength;
    }

    private void append(int number) {
        for (int i = 0; i < BYTES_A_NUMBER && tapeLength < tape.length; i++) {
            tape[tapeLength] = (byte) (number >>> 24 - 8 * i);
            tapeLength++;
        }
    }

    public int city(int n) throws IllegalArgumentException {
        if (n < 0 || n > tapeLength) {
            throw new IllegalArgumentException("the tape has not so many bytes");
        }
        tapeLength = 0;
        Tokens tokens = new Tokens(tape, n);
        CityReader reader = new CityReader(tokens, spare);
        if (!reader.readCity()) {
            faultPlace = tokens.place();
            now.refusedTexts++;
            return tokens.refusal();
        }
        City old = wall;
        wall = spare;
        spare = old;
        faultPlace = NONE;
        now.startAnew();
        isKept = false;
        stepCount = NONE;
        return 0;
    }

    public int fault() {
        return faultPlace;
    }

    public int count(int what) throws NoSuchElementException {
        switch (what) {
            case 0: return wall.columns;
            case 1: return wall.stories;
            case 2: return wall.drawers.size;
            case 3: return wall.people.size;
            case 4: return wall.reach;
            case 5: return wall.rules.size;
            case 6: return now.out;
            case 7: return now.moves;
            case 8: return now.fed;
            case 9: return now.asleep;
            case 10: return tapeLength;
            case 11: return now.refusedTexts;
            case 12: return now.refusedMoves;
            default: throw new NoSuchElementException("no such count");
        }
    }

    public int drawer(int drawer, int what) throws NoSuchElementException {
        demandDrawer(drawer);
        switch (what) {
            case 0: return wall.drawers.kind[drawer];
            case 1: return wall.drawers.column[drawer];
            case 2: return wall.drawers.story[drawer];
            case 3: return wall.drawers.length[drawer];
            case 4: return wall.drawers.isWide(drawer) ? 1 : 0;
            case 5: return now.out >> drawer & 1;
            case 6: return wall.reachedBy(now.out) >> drawer & 1;
            case 7: return wall.rentOf(drawer);
            default: throw new NoSuchElementException("a drawer has no such thing");
        }
    }

    private boolean isDrawer(int drawer) {
        return drawer >= 0 && drawer < wall.drawers.size;
    }

    private void demandDrawer(int drawer) {
        if (!isDrawer(drawer)) {
            throw new NoSuchElementException("no such drawer");
        }
    }

    public int person(int person, int what) throws NoSuchElementException {
        demandPerson(person);
        switch (what) {
            case 0: return wall.people.home[person];
            case 1: return wall.people.shop[person];
            case 2: return wall.people.weight[person];
            case 3: return now.fed >> person & 1;
            case 4: return now.hurt[person];
            default: throw new NoSuchElementException("a person has no such thing");
        }
    }

    private void demandPerson(int person) {
        if (person < 0 || person >= wall.people.size) {
            throw new NoSuchElementException("no such person");
        }
    }

    public boolean may(int set) throws IllegalArgumentException {
        demandSet(set);
        return wall.canBe(set);
    }

    public int broken(int set) throws IllegalArgumentException {
        demandSet(set);
        return wall.leastBroken(set);
    }

    private void demandSet(int set) {
        if ((set & ~wall.drawers.all()) != 0) {
            throw new IllegalArgumentException("bits of drawers that there aren't");
        }
    }

    public int move(int drawer) {
        int trouble = troubleOf(drawer);
        if (trouble == 0) {
            int out = now.out ^ 1 << drawer;
            now.doMove(drawer, wall.fedBy(out));
        } else {
            now.refusedMoves++;
        }
        return trouble;
    }

    private int troubleOf(int drawer) {
        if (!isDrawer(drawer)) {
            return 1;
        }
        int bit = 1 << drawer;
        if ((now.asleep & bit) != 0) {
            return 2;
        }
        if ((wall.reachedBy(now.out) & bit) == 0) {
            return 3;
        }
        if (!wall.canBe(now.out ^ bit)) {
            return 4;
        }
        return now.moves >= MOST_MOVES ? 5 : 0;
    }

    public int undo() {
        return now.undoMove();
    }

    public void sleeps(int drawer, boolean sleeps) throws NoSuchElementException {
        demandDrawer(drawer);
        int bit = 1 << drawer;
        now.asleep = sleeps ? now.asleep | bit : now.asleep & ~bit;
    }

    public int opens(int drawer) throws NoSuchElementException {
        demandDrawer(drawer);
        return keepSteps(search.seek(wall, now.out, now.asleep, 1 << drawer, 1 << drawer));
    }

    public int shuts(int drawer) throws NoSuchElementException {
        demandDrawer(drawer);
        return keepSteps(search.seek(wall, now.out, now.asleep, 1 << drawer, 0));
    }

    public int bread() {
        return keepSteps(seekBread(wall, now.asleep));
    }

    private int seekBread(City city, int asleep) {
        int start = now.out | now.fed << city.drawers.size;
        int goal = city.people.hungry() << city.drawers.size;
        return search.seek(city, start, asleep, goal, goal);
    }

    /** Keeps the row that led to a place of the search; what is kept stays, if there is no such place. */
    private int keepSteps(int place) {
        if (place == NONE) {
            return NONE;
        }
        int length = search.stepsTo(place);
        if (steps.length < length) {
            steps = new int[length];
        }
        search.writeSteps(place, length, steps);
        stepCount = length;
        return length;
    }

    public int row(int i) throws NoSuchElementException {
        if (stepCount == NONE) {
            throw new NoSuchElementException("no row is kept");
        }
        if (i == NONE) {
            return stepCount;
        }
        if (i < 0 || i >= stepCount) {
            throw new NoSuchElementException("the row has no such place");
        }
        return steps[i];
    }

    public int harm(int drawer) throws NoSuchElementException {
        demandDrawer(drawer);
        int bit = 1 << drawer;
        int awake = search.everOut(wall, now.out, now.asleep & ~bit) & ~bit;
        int asleep = search.everOut(wall, now.out, now.asleep | bit) & ~bit;
        return Integer.bitCount(awake) - Integer.bitCount(asleep);
    }

    public int married(int a, int b) throws NoSuchElementException {
        demandDrawer(a);
        demandDrawer(b);
        int both = 1 << a | 1 << b;
        if (((now.out | now.asleep) & both) != 0 || !wall.drawers.canMarry(a, b)) {
            return UNMARRIED;
        }
        int single = seekBread(wall, now.asleep);
        if (single == NONE) {
            return UNMARRIED;
        }
        int singleSteps = search.stepsTo(single);
        spare.copyFrom(wall);
        spare.marry(a, b);
        // A number that is no drawer any more is never out: as if it slept for ever.
        int wed = seekBread(spare, now.asleep | 1 << b);
        return wed == NONE ? UNMARRIED : search.stepsTo(wed) - singleSteps;
    }

    public int rent() {
        int sum = 0;
        for (int d = 0; d < wall.drawers.size; d++) {
            sum += wall.rentOf(d);
        }
        return sum;
    }

    public int wind(int seed, int hours) throws IllegalArgumentException {
        if (hours < 0 || hours > MOST_HOURS) {
            throw new IllegalArgumentException("hours of wind are 0 to 60");
        }
        int slammed = 0;
        int next = seed;
        for (int hour = 0; hour < hours; hour++) {
            for (int d = 0; d < wall.drawers.size; d++) {
                if ((now.out >> d & 1) != 0) {
                    next = next * 1103515245 + 12345;
                    if ((next >>> 16 & 0x7fff) % 1000 < wall.chance * wall.drawers.length[d]) {
                        slam(d);
                        slammed++;
                    }
                }
            }
        }
        if (hours > 0) {
            now.moves = 0;
        }
        return slammed;
    }

    private void slam(int drawer) {
        now.out &= ~(1 << drawer);
        if ((now.asleep >> drawer & 1) == 0) {
            return;
        }
        for (int p = 0; p < wall.people.size; p++) {
            if (wall.people.home[p] == drawer) {
                now.hurt[p]++;
            }
        }
    }

    public int who(int drawer) throws NoSuchElementException {
        demandDrawer(drawer);
        if ((now.out >> drawer & 1) == 0) {
            return NONE;
        }
        return wall.handsNear(drawer, now.out);
    }

    public int odds(int drawer, int person, int what) throws NoSuchElementException {
        demandDrawer(drawer);
        demandPerson(person);
        if (what != 0 && what != 1) {
            throw new NoSuchElementException("a fraction has an upper and a lower part");
        }
        if ((now.out >> drawer & 1) == 0) {
            return NONE;
        }
        int hands = wall.handsNear(drawer, now.out);
        int upper = (hands >> person & 1) != 0 ? wall.people.weight[person] : 0;
        if (upper == 0) {
            return what;
        }
        int lower = wall.people.weightOf(hands);
        int divisor = commonDivisor(upper, lower);
        return (what == 0 ? upper : lower) / divisor;
    }

    /** The greatest common divisor of two numbers above 0. */
    private static int commonDivisor(int a, int b) {
        int greater = a;
        int less = b;
        for (int i = 0; i < 1000 && less > 0; i++) {
            int rest = greater % less;
            greater = less;
            less = rest;
        }
        return greater > 0 ? greater : 1;
    }

    public void image() {
        kept.copyFrom(now);
        isKept = true;
    }

    public boolean restore() {
        if (isKept) {
            now.copyFrom(kept);
        }
        return isKept;
    }

    /** What calls have changed since the city was told. */
    private static final class State {
        int out;
        int asleep;
        int fed;
        int moves;
        int refusedTexts;
        int refusedMoves;
        final int[] hurt = new int[MOST_PEOPLE];
        final int[] moved = new int[MOST_MOVES];
        final int[] fedAhead = new int[MOST_MOVES];

        /** A new city forgets all but what was refused. */
        void startAnew() {
            out = 0;
            asleep = 0;
            fed = 0;
            moves = 0;
            Arrays.fill(hurt, 0);
        }

        void copyFrom(State other) {
            out = other.out;
            asleep = other.asleep;
            fed = other.fed;
            moves = other.moves;
            refusedTexts = other.refusedTexts;
            refusedMoves = other.refusedMoves;
            System.arraycopy(other.hurt, 0, hurt, 0, MOST_PEOPLE);
            System.arraycopy(other.moved, 0, moved, 0, MOST_MOVES);
            System.arraycopy(other.fedAhead, 0, fedAhead, 0, MOST_MOVES);
        }

        void doMove(int drawer, int newlyFed) {
            if (moves < 0 || moves >= MOST_MOVES) {
                return;
            }
            moved[moves] = drawer;
            fedAhead[moves] = fed;
            moves++;
            out ^= 1 << drawer;
            fed |= newlyFed;
        }

        int undoMove() {
            if (moves <= 0 || moves > MOST_MOVES) {
                return NONE;
            }
            moves--;
            out ^= 1 << moved[moves];
            fed = fedAhead[moves];
            return moves;
        }
    }

    /** The DRAWERS of a city, and for each the others that matter to it, as bits. */
    private static final class Drawers {
        int size;
        final int[] kind = new int[MOST_DRAWERS];
        final int[] column = new int[MOST_DRAWERS];
        final int[] lastColumn = new int[MOST_DRAWERS];
        final int[] story = new int[MOST_DRAWERS];
        final int[] length = new int[MOST_DRAWERS];
        final int[] above = new int[MOST_DRAWERS];
        final int[] tooLongAbove = new int[MOST_DRAWERS];
        final int[] footholds = new int[MOST_DRAWERS];
        int shops;
        int graves;

        int all() {
            return (1 << size) - 1;
        }

        boolean isWide(int drawer) {
            return lastColumn[drawer] > column[drawer];
        }

        boolean isTaken(int atColumn, int atStory) {
            for (int d = 0; d < size; d++) {
                if (story[d] == atStory && column[d] <= atColumn && atColumn <= lastColumn[d]) {
                    return true;
                }
            }
            return false;
        }

        /** A narrow one. */
        void add(int newKind, int atColumn, int atStory, int newLength) {
            if (size < MOST_DRAWERS) {
                kind[size] = newKind;
                column[size] = atColumn;
                lastColumn[size] = atColumn;
                story[size] = atStory;
                length[size] = newLength;
                size++;
            }
        }

        void copyFrom(Drawers other) {
            size = other.size;
            System.arraycopy(other.kind, 0, kind, 0, MOST_DRAWERS);
            System.arraycopy(other.column, 0, column, 0, MOST_DRAWERS);
            System.arraycopy(other.lastColumn, 0, lastColumn, 0, MOST_DRAWERS);
            System.arraycopy(other.story, 0, story, 0, MOST_DRAWERS);
            System.arraycopy(other.length, 0, length, 0, MOST_DRAWERS);
        }

        int columnsApart(int a, int b) {
            return Math.max(0, Math.max(column[a] - lastColumn[b], column[b] - lastColumn[a]));
        }

        boolean canMarry(int a, int b) {
            return kind[a] == HOME && kind[b] == HOME && !isWide(a) && !isWide(b)
                && story[a] == story[b] && columnsApart(a, b) == 1;
        }

        /** Looks once at every pair, so that sets can be judged by their bits alone. */
        void compare(int reach) {
            shops = 0;
            graves = 0;
            for (int d = 0; d < size; d++) {
                shops |= kind[d] == SHOP ? 1 << d : 0;
                graves |= kind[d] == GRAVE ? 1 << d : 0;
                above[d] = 0;
                tooLongAbove[d] = 0;
                footholds[d] = 0;
                for (int e = 0; e < size; e++) {
                    compareTwo(d, e, reach);
                }
            }
        }

        private void compareTwo(int d, int e, int reach) {
            if (columnsApart(d, e) > 0) {
                return;
            }
            if (story[e] > story[d]) {
                above[d] |= 1 << e;
                tooLongAbove[d] |= length[e] >= length[d] ? 1 << e : 0;
            }
            if (story[e] < story[d] && story[d] - story[e] <= reach) {
                footholds[d] |= 1 << e;
            }
        }
    }

    /** The PEOPLE of a city. */
    private static final class People {
        int size;
        final int[] home = new int[MOST_PEOPLE];
        final int[] shop = new int[MOST_PEOPLE];
        final int[] weight = new int[MOST_PEOPLE];

        void add(int newHome) {
            if (size < MOST_PEOPLE) {
                home[size] = newHome;
                shop[size] = NONE;
                weight[size] = 1;
                size++;
            }
        }

        void copyFrom(People other) {
            size = other.size;
            System.arraycopy(other.home, 0, home, 0, MOST_PEOPLE);
            System.arraycopy(other.shop, 0, shop, 0, MOST_PEOPLE);
            System.arraycopy(other.weight, 0, weight, 0, MOST_PEOPLE);
        }

        /** All who want a shop. */
        int hungry() {
            int bits = 0;
            for (int p = 0; p < size; p++) {
                bits |= shop[p] != NONE ? 1 << p : 0;
            }
            return bits;
        }

        /** Those whose home and shop are out together. */
        int withBoth(int out) {
            int bits = 0;
            for (int p = 0; p < size; p++) {
                if (shop[p] != NONE && (out >> home[p] & out >> shop[p] & 1) != 0) {
                    bits |= 1 << p;
                }
            }
            return bits;
        }

        int weightOf(int bits) {
            int sum = 0;
            for (int p = 0; p < size; p++) {
                sum += (bits >> p & 1) != 0 ? weight[p] : 0;
            }
            return sum;
        }
    }

    /** The RULES of a city, each as signs that stand behind what they join: a NUMBER is itself, the rest is below 0. */
    private static final class Rules {
        static final int VALUES = 7;
        static final int ADD = -10;
        static final int SUBTRACT = -11;
        static final int MULTIPLY = -12;
        static final int DIVIDE = -13;
        static final int LESS = -14;
        static final int SAME = -15;
        static final int AND = -16;
        static final int OR = -17;
        static final int NOT = -18;
        // Six EXPRs within one another leave at most five waiting numbers each.
        static final int MOST_WAITING = 64;

        int size;
        private int length;
        private final int[] start = new int[MOST_RULES + 1];
        private final int[] code = new int[MOST_BYTES];
        private final int[] waiting = new int[MOST_WAITING];

        static int codeOfValue(int value) {
            return -1 - value;
        }

        void clear() {
            size = 0;
            length = 0;
        }

        void add(int item) {
            if (length < code.length) {
                code[length] = item;
                length++;
            }
        }

        void endRule() {
            if (size < MOST_RULES) {
                size++;
                start[size] = length;
            }
        }

        void copyFrom(Rules other) {
            size = other.size;
            length = other.length;
            System.arraycopy(other.start, 0, start, 0, MOST_RULES + 1);
            System.arraycopy(other.code, 0, code, 0, length);
        }

        boolean holds(int rule, int[] values) {
            int top = 0;
            for (int i = start[rule]; i < start[rule + 1]; i++) {
                int item = code[i];
                if (item >= -VALUES && top < MOST_WAITING) {
                    waiting[top] = item >= 0 ? item : values[-1 - item];
                    top++;
                } else if (item == NOT && top > 0) {
                    waiting[top - 1] = waiting[top - 1] == 0 ? 1 : 0;
                } else if (top > 1) {
                    top--;
                    waiting[top - 1] = join(item, waiting[top - 1], waiting[top]);
                }
            }
            return waiting[0] != 0;
        }

        private static int join(int sign, int a, int b) {
            switch (sign) {
                case ADD: return a + b;
                case SUBTRACT: return a - b;
                case MULTIPLY: return a * b;
                case DIVIDE: return b == 0 ? 0 : a / b;
                case LESS: return a < b ? 1 : 0;
                case SAME: return a == b ? 1 : 0;
                case AND: return a != 0 && b != 0 ? 1 : 0;
                case OR: return a != 0 || b != 0 ? 1 : 0;
                default: return 0;
            }
        }
    }

    /** What a text tells. */
    private static final class City {
        private static final int JUDGED = 1;
        private static final int CAN_BE = 2;
        private static final int REACHED_SHIFT = 2;
        private static final int FED_SHIFT = REACHED_SHIFT + MOST_DRAWERS;

        int columns = 3;
        int stories = 4;
        int reach = 2;
        int base;
        int rise;
        int part;
        int chance;
        final Drawers drawers = new Drawers();
        final People people = new People();
        final Rules rules = new Rules();
        private final int[] values = new int[Rules.VALUES];
        // Judging a set may cost much and is asked often by a search: each is judged once.
        private final int[] verdicts = new int[1 << MOST_DRAWERS];

        void clear() {
            columns = 3;
            stories = 4;
            reach = 2;
            base = 0;
            rise = 0;
            part = 0;
            chance = 0;
            drawers.size = 0;
            people.size = 0;
            rules.clear();
        }

        /** Behind the last change of a city, before it is asked. */
        void settle() {
            drawers.compare(reach);
            Arrays.fill(verdicts, 0);
        }

        /** Of the measures only those that judge moves: a copy pays no rent and feels no wind. */
        void copyFrom(City other) {
            columns = other.columns;
            stories = other.stories;
            reach = other.reach;
            drawers.copyFrom(other.drawers);
            people.copyFrom(other.people);
            rules.copyFrom(other.rules);
        }

        /** The wide home takes the number a. */
        void marry(int a, int b) {
            drawers.column[a] = Math.min(drawers.column[a], drawers.column[b]);
            drawers.lastColumn[a] = drawers.column[a] + 1;
            drawers.length[a] = Math.max(drawers.length[a], drawers.length[b]);
            for (int p = 0; p < people.size; p++) {
                people.home[p] = people.home[p] == b ? a : people.home[p];
            }
            settle();
        }

        int rentOf(int drawer) {
            if (drawers.kind[drawer] == GRAVE) {
                return 0;
            }
            int narrow = base + rise * drawers.story[drawer] + part * drawers.length[drawer];
            return drawers.isWide(drawer) ? 2 * narrow : narrow;
        }

        /** The PEOPLE who could have pushed a drawer in. */
        int handsNear(int drawer, int out) {
            int bits = 0;
            for (int p = 0; p < people.size; p++) {
                int home = people.home[p];
                if (home != drawer && (out >> home & 1) != 0
                    && Math.abs(drawers.story[home] - drawers.story[drawer]) <= reach
                    && drawers.columnsApart(home, drawer) <= 1) {
                    bits |= 1 << p;
                }
            }
            return bits;
        }

        boolean canBe(int set) {
            return (judge(set) & CAN_BE) != 0;
        }

        /** All that hands reach, if a set is out. */
        int reachedBy(int set) {
            return judge(set) >> REACHED_SHIFT & (1 << MOST_DRAWERS) - 1;
        }

        /** The PEOPLE whose home and shop are in a set. */
        int fedBy(int set) {
            return judge(set) >> FED_SHIFT;
        }

        /** All three answers at once, in the bits of a number. */
        private int judge(int set) {
            if (set < 0 || set >= verdicts.length) {
                return 0;
            }
            if (verdicts[set] == 0) {
                boolean canBe = isSound(set) && leastBroken(set) == NONE;
                verdicts[set] = JUDGED | (canBe ? CAN_BE : 0)
                    | climb(set) << REACHED_SHIFT | people.withBoth(set) << FED_SHIFT;
            }
            return verdicts[set];
        }

        /** Whether it can be, but for the rules. */
        private boolean isSound(int set) {
            if ((set & drawers.graves) != 0) {
                return false;
            }
            for (int d = 0; d < drawers.size; d++) {
                if ((set >> d & 1) != 0 && (set & drawers.tooLongAbove[d]) != 0) {
                    return false;
                }
            }
            return true;
        }

        /** From the lowest story up, since only lower ones carry a hand. */
        private int climb(int set) {
            int reached = 0;
            for (int s = 0; s < stories; s++) {
                for (int d = 0; d < drawers.size; d++) {
                    if (drawers.story[d] == s && (s < reach || (set & reached & drawers.footholds[d]) != 0)) {
                        reached |= 1 << d;
                    }
                }
            }
            return reached;
        }

        int leastBroken(int set) {
            int least = rules.size;
            for (int d = 0; d < drawers.size && least > 0; d++) {
                if ((set >> d & 1) == 0) {
                    continue;
                }
                lookAt(d, set);
                for (int r = 0; r < least; r++) {
                    if (!rules.holds(r, values)) {
                        least = r;
                    }
                }
            }
            return least < rules.size ? least : NONE;
        }

        /** In the order of RuleReader.valueTold. */
        private void lookAt(int drawer, int set) {
            values[0] = drawers.column[drawer];
            values[1] = drawers.story[drawer];
            values[2] = drawers.length[drawer];
            values[3] = drawers.kind[drawer];
            values[4] = Integer.bitCount(set);
            values[5] = Integer.bitCount(set & drawers.shops);
            values[6] = Integer.bitCount(set & drawers.above[drawer]);
        }
    }

    /** The TOKENS of a text, one at a time, and its first fault. */
    private static final class Tokens {
        private static final int END = 0;
        private static final int WORD = 1;
        private static final int NUMBER = 2;
        private static final int SIGN = 3;
        private static final int NO_TOKEN = 4;
        private static final int MOST_DIGITS = 4;

        private final byte[] text;
        private final int end;
        private int type;
        private int first;
        private int behind;
        private int refusal;

        /** Stands ahead of the first TOKEN. */
        Tokens(byte[] text, int n) {
            this.text = text;
            this.end = Math.min(n, text.length);
        }

        void advance() {
            int at = behind;
            while (at < end && (text[at] == ' ' || text[at] == '\n')) {
                at++;
            }
            first = at;
            type = at < end ? typeOf(text[at]) : END;
            at = at < end ? at + 1 : end;
            while (at < end && (type == WORD || type == NUMBER) && typeOf(text[at]) == type) {
                at++;
            }
            behind = at;
        }

        private static int typeOf(byte b) {
            if (b >= 'a' && b <= 'z') {
                return WORD;
            }
            if (b >= '0' && b <= '9') {
                return NUMBER;
            }
            return ";()+-*/<=".indexOf((char) (b & 255)) >= 0 ? SIGN : NO_TOKEN;
        }

        boolean isEnd() {
            return type == END;
        }

        boolean isAnyWord() {
            return type == WORD;
        }

        boolean isNumber() {
            return type == NUMBER;
        }

        boolean isSign(char sign) {
            return type == SIGN && first < end && text[first] == sign;
        }

        boolean isWord(String word) {
            if (type != WORD || behind - first != word.length()) {
                return false;
            }
            for (int i = 0; i < word.length(); i++) {
                if (text[first + i] != word.charAt(i)) {
                    return false;
                }
            }
            return true;
        }

        boolean isTooLong() {
            return behind - first > MOST_DIGITS;
        }

        /** Of a NUMBER that is not too long. */
        int number() {
            int value = 0;
            for (int i = first; i < behind; i++) {
                value = 10 * value + text[i] - '0';
            }
            return value;
        }

        /** A fault at this TOKEN: always false, so that a reader can end by it. */
        boolean refuse(int reason) {
            refusal = reason;
            return false;
        }

        int refusal() {
            return refusal;
        }

        int place() {
            return first;
        }
    }

    /** Reads a CITY. Its methods tell whether they could; if not, the TOKEN where they stopped is refused. */
    private static final class CityReader {
        private static final int CAN_NOT_STAND = 1;
        private static final int TOO_MUCH = 2;
        private static final int UNKNOWN = 3;
        private static final int TOLD_TWICE = 4;
        private static final int DOES_NOT_FIT = 5;

        private final Tokens tokens;
        private final City city;
        private final RuleReader rules;
        private boolean reachTold;
        private boolean rentTold;
        private boolean windTold;
        private int number;

        CityReader(Tokens tokens, City city) {
            this.tokens = tokens;
            this.city = city;
            this.rules = new RuleReader(tokens, city.rules);
        }

        /** If there is a fault, the city is of no use. */
        boolean readCity() {
            city.clear();
            tokens.advance();
            for (int i = 0; i < MOST_BYTES && !tokens.isEnd(); i++) {
                if (!readLine(i == 0) || !readSign(';')) {
                    return false;
                }
            }
            city.settle();
            return true;
        }

        private boolean readLine(boolean isFirst) {
            int kind = kindTold();
            if (kind != NONE) {
                return readDrawer(kind);
            }
            if (tokens.isWord("person")) {
                return readPerson();
            }
            if (tokens.isWord("rule")) {
                return rules.readRule();
            }
            if (tokens.isWord("wall")) {
                return isFirst ? readWall() : tokens.refuse(TOLD_TWICE);
            }
            if (tokens.isWord("reach")) {
                return reachTold ? tokens.refuse(TOLD_TWICE) : readReach();
            }
            if (tokens.isWord("rent")) {
                return rentTold ? tokens.refuse(TOLD_TWICE) : readRent();
            }
            if (tokens.isWord("wind")) {
                return windTold ? tokens.refuse(TOLD_TWICE) : readWind();
            }
            return tokens.refuse(CAN_NOT_STAND);
        }

        private int kindTold() {
            if (tokens.isWord("home")) {
                return HOME;
            }
            if (tokens.isWord("shop")) {
                return SHOP;
            }
            if (tokens.isWord("grave")) {
                return GRAVE;
            }
            return tokens.isWord("stove") ? STOVE : NONE;
        }

        private boolean readSign(char sign) {
            if (!tokens.isSign(sign)) {
                return tokens.refuse(CAN_NOT_STAND);
            }
            tokens.advance();
            return true;
        }

        /** Looks at a NUMBER that may have faults of its own besides, so it stays the TOKEN. */
        private boolean seeNumber(int least, int most) {
            if (!tokens.isNumber()) {
                return tokens.refuse(CAN_NOT_STAND);
            }
            if (tokens.isTooLong()) {
                return tokens.refuse(TOO_MUCH);
            }
            number = tokens.number();
            return number >= least && number <= most || tokens.refuse(TOO_MUCH);
        }

        private boolean readNumber(int least, int most) {
            if (!seeNumber(least, most)) {
                return false;
            }
            tokens.advance();
            return true;
        }

        private boolean readWall() {
            tokens.advance();
            if (!readNumber(1, 6)) {
                return false;
            }
            city.columns = number;
            if (!readNumber(1, 9)) {
                return false;
            }
            city.stories = number;
            return true;
        }

        private boolean readReach() {
            tokens.advance();
            if (!readNumber(1, 9)) {
                return false;
            }
            city.reach = number;
            reachTold = true;
            return true;
        }

        private boolean readRent() {
            tokens.advance();
            if (!readNumber(0, 99)) {
                return false;
            }
            city.base = number;
            if (!readNumber(0, 99)) {
                return false;
            }
            city.rise = number;
            if (!readNumber(0, 99)) {
                return false;
            }
            city.part = number;
            rentTold = true;
            return true;
        }

        private boolean readWind() {
            tokens.advance();
            if (!readNumber(0, 1000)) {
                return false;
            }
            city.chance = number;
            windTold = true;
            return true;
        }

        private boolean readDrawer(int kind) {
            Drawers drawers = city.drawers;
            int d = drawers.size;
            if (d >= MOST_DRAWERS) {
                return tokens.refuse(TOO_MUCH);
            }
            tokens.advance();
            if (!readNumber(0, city.columns - 1)) {
                return false;
            }
            int column = number;
            if (!seeNumber(0, city.stories - 1)) {
                return false;
            }
            int story = number;
            if (drawers.isTaken(column, story)) {
                return tokens.refuse(DOES_NOT_FIT);
            }
            tokens.advance();
            if (!readNumber(1, 9)) {
                return false;
            }
            drawers.add(kind, column, story, number);
            return !tokens.isWord("wide") || readWide(d);
        }

        private boolean readWide(int d) {
            int next = city.drawers.column[d] + 1;
            if (next >= city.columns) {
                return tokens.refuse(TOO_MUCH);
            }
            if (city.drawers.isTaken(next, city.drawers.story[d])) {
                return tokens.refuse(DOES_NOT_FIT);
            }
            city.drawers.lastColumn[d] = next;
            tokens.advance();
            return true;
        }

        /** A DRAWER that is told ahead and of the kind that is due. */
        private boolean readDrawerOf(int kind) {
            if (!seeNumber(0, 9999)) {
                return false;
            }
            if (number >= city.drawers.size) {
                return tokens.refuse(UNKNOWN);
            }
            if (city.drawers.kind[number] != kind) {
                return tokens.refuse(DOES_NOT_FIT);
            }
            tokens.advance();
            return true;
        }

        private boolean readPerson() {
            int p = city.people.size;
            if (p >= MOST_PEOPLE) {
                return tokens.refuse(TOO_MUCH);
            }
            tokens.advance();
            if (!readDrawerOf(HOME)) {
                return false;
            }
            city.people.add(number);
            if (tokens.isWord("wants")) {
                tokens.advance();
                if (!readDrawerOf(SHOP)) {
                    return false;
                }
                city.people.shop[p] = number;
            }
            if (tokens.isWord("weight")) {
                tokens.advance();
                if (!readNumber(0, 99)) {
                    return false;
                }
                city.people.weight[p] = number;
            }
            return true;
        }
    }

    /** Reads RULES, the EXPR of each with every sign behind the two parts that it joins. */
    private static final class RuleReader {
        private static final int MOST_WITHIN = 6;
        private static final int MOST_NOTS = 6;
        private static final int OR_LEVEL = 0;
        private static final int AND_LEVEL = 1;
        private static final int NOT_LEVEL = 2;
        private static final int TEST_LEVEL = 3;
        private static final int SUM_LEVEL = 4;
        private static final int PART_LEVEL = 6;

        private final Tokens tokens;
        private final Rules rules;

        RuleReader(Tokens tokens, Rules rules) {
            this.tokens = tokens;
            this.rules = rules;
        }

        boolean readRule() {
            if (rules.size >= MOST_RULES) {
                return tokens.refuse(CityReader.TOO_MUCH);
            }
            tokens.advance();
            if (!readLevel(OR_LEVEL, 0)) {
                return false;
            }
            rules.endRule();
            return true;
        }

        /** What the signs of a level join is of the next level; an EXPR within so many others is of the first. */
        private boolean readLevel(int level, int within) {
            if (level == NOT_LEVEL) {
                return readNot(within);
            }
            if (level >= PART_LEVEL) {
                return readPart(within);
            }
            if (!readLevel(level + 1, within)) {
                return false;
            }
            int most = level == TEST_LEVEL ? 1 : MOST_BYTES;
            int sign = signTold(level);
            for (int i = 0; i < most && sign != 0; i++) {
                tokens.advance();
                if (!readLevel(level + 1, within)) {
                    return false;
                }
                rules.add(sign);
                sign = signTold(level);
            }
            return true;
        }

        /** The code of the sign, if it is one of a level; else 0. */
        private int signTold(int level) {
            switch (level) {
                case OR_LEVEL: return tokens.isWord("or") ? Rules.OR : 0;
                case AND_LEVEL: return tokens.isWord("and") ? Rules.AND : 0;
                case TEST_LEVEL: return tokens.isSign('<') ? Rules.LESS : tokens.isSign('=') ? Rules.SAME : 0;
                case SUM_LEVEL: return tokens.isSign('+') ? Rules.ADD : tokens.isSign('-') ? Rules.SUBTRACT : 0;
                default: return tokens.isSign('*') ? Rules.MULTIPLY : tokens.isSign('/') ? Rules.DIVIDE : 0;
            }
        }

        private boolean readNot(int within) {
            int nots = 0;
            while (nots < MOST_NOTS && tokens.isWord("not")) {
                tokens.advance();
                nots++;
            }
            if (tokens.isWord("not")) {
                return tokens.refuse(CityReader.TOO_MUCH);
            }
            if (!readLevel(TEST_LEVEL, within)) {
                return false;
            }
            for (int i = 0; i < nots; i++) {
                rules.add(Rules.NOT);
            }
            return true;
        }

        private boolean readPart(int within) {
            if (tokens.isSign('(')) {
                return readParenthesis(within);
            }
            if (tokens.isNumber()) {
                if (tokens.isTooLong()) {
                    return tokens.refuse(CityReader.TOO_MUCH);
                }
                rules.add(tokens.number());
            } else if (tokens.isAnyWord()) {
                int value = valueTold();
                if (value == NONE) {
                    return tokens.refuse(CityReader.UNKNOWN);
                }
                rules.add(Rules.codeOfValue(value));
            } else {
                return tokens.refuse(CityReader.CAN_NOT_STAND);
            }
            tokens.advance();
            return true;
        }

        private boolean readParenthesis(int within) {
            tokens.advance();
            if (within + 1 >= MOST_WITHIN) {
                boolean canStand = tokens.isNumber() || tokens.isAnyWord() || tokens.isSign('(');
                return tokens.refuse(canStand ? CityReader.TOO_MUCH : CityReader.CAN_NOT_STAND);
            }
            if (!readLevel(OR_LEVEL, within + 1)) {
                return false;
            }
            if (!tokens.isSign(')')) {
                return tokens.refuse(CityReader.CAN_NOT_STAND);
            }
            tokens.advance();
            return true;
        }

        /** The place of a VALUE in City.lookAt. */
        private int valueTold() {
            if (tokens.isWord("column")) {
                return 0;
            }
            if (tokens.isWord("story")) {
                return 1;
            }
            if (tokens.isWord("length")) {
                return 2;
            }
            if (tokens.isWord("kind")) {
                return 3;
            }
            if (tokens.isWord("out")) {
                return 4;
            }
            if (tokens.isWord("shops")) {
                return 5;
            }
            return tokens.isWord("above") ? 6 : NONE;
        }
    }

    /**
     * All that can come about by MOVES, the soonest first, and of like ones those of the first row first:
     * so the first that fits a goal is the end of THE ROW. A state has what is out in its low bits, and above
     * them, if bread is sought, who has it.
     */
    private static final class Search {
        private static final int STATE_BITS = MOST_DRAWERS + MOST_PEOPLE;
        private static final int STATE_MASK = (1 << STATE_BITS) - 1;

        // A state, and above its bits the place of the one that it came from.
        private int[] found = new int[0];
        private int[] seen = new int[0];
        private int size;
        private int outMask;

        /** The place of the first state whose bits under the mask are the goal, or NONE. */
        int seek(City city, int start, int asleep, int mask, int goal) {
            int drawers = city.drawers.size;
            outMask = city.drawers.all();
            boolean seeksBread = mask > outMask;
            begin(seeksBread ? drawers + city.people.size : drawers);
            int first = seeksBread ? start : start & outMask;
            note(first, 0);
            if ((first & mask) == goal) {
                return 0;
            }
            for (int at = 0; at < size && at < found.length; at++) {
                int state = found[at] & STATE_MASK;
                int out = state & outMask;
                int movable = city.reachedBy(out) & ~asleep;
                for (int d = 0; d < drawers; d++) {
                    int next = out ^ 1 << d;
                    if ((movable >> d & 1) == 0 || !city.canBe(next)) {
                        continue;
                    }
                    if (seeksBread) {
                        next |= state & ~outMask | city.fedBy(next) << drawers;
                    }
                    if (note(next, at) && (next & mask) == goal) {
                        return size - 1;
                    }
                }
            }
            return NONE;
        }

        /** What can ever be out, as bits. */
        int everOut(City city, int out, int asleep) {
            // No bits under the mask can be a goal of 1, so that the search goes on to its end.
            seek(city, out, asleep, 0, 1);
            int ever = 0;
            for (int at = 0; at < size; at++) {
                ever |= found[at] & outMask;
            }
            return ever;
        }

        /** Makes room only when more is needed than ever before. */
        private void begin(int bits) {
            int states = 1 << Math.min(Math.max(bits, 0), STATE_BITS);
            int words = (states + 31) / 32;
            if (found.length < states) {
                found = new int[states];
                seen = new int[words];
            }
            for (int i = 0; i < words && i < seen.length; i++) {
                seen[i] = 0;
            }
            size = 0;
        }

        /** Whether a state is new; then it is kept. */
        private boolean note(int state, int from) {
            int word = state >> 5;
            if (word < 0 || word >= seen.length || (seen[word] >> (state & 31) & 1) != 0 || size >= found.length) {
                return false;
            }
            seen[word] |= 1 << (state & 31);
            found[size] = state | from << STATE_BITS;
            size++;
            return true;
        }

        /** How many moves led to a place of the latest search. */
        int stepsTo(int place) {
            int length = 0;
            int at = place;
            while (at > 0 && at < size && length < size) {
                at = found[at] >> STATE_BITS;
                length++;
            }
            return length;
        }

        /** The drawers that were moved on the way to a place of the latest search. */
        void writeSteps(int place, int length, int[] steps) {
            int at = place;
            for (int i = Math.min(length, steps.length) - 1; i >= 0 && at > 0 && at < size; i--) {
                int from = found[at] >> STATE_BITS;
                if (from < 0 || from >= at) {
                    return;
                }
                int movedBit = (found[at] ^ found[from]) & outMask;
                steps[i] = Integer.bitCount(movedBit - 1);
                at = from;
            }
        }
    }
}
