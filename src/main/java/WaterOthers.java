import java.util.Arrays;

/** The towpath whose walkers wait for their others in the water; ../shared/DOC.md has every promise. */
public final class WaterOthers {
    public static final int NONE = -6, UNKNOWN = -1, OUTSIDE = -2, STATE = -3, FULL = -4, NO = -5;
    public static final long LOST = -1000000000000000000L;

    private static final int CELLS = 20;
    private static final int WALKERS = 6;
    private static final int MOST_LATE = 5;
    private static final int LAST_BEAT = 999;
    private static final int IMAGES = 2;

    private static final char GO_WEST = '<';
    private static final char GO_EAST = '>';
    private static final char STAY = '=';
    private static final char STONE = '*';
    private static final char WIND = '~';
    private static final char BEAT = '.';

    /** What a draw of a year comes to. */
    private static final char[] DRAWN = {GO_WEST, GO_WEST, GO_EAST, GO_EAST, STAY, STONE, WIND, BEAT};

    private final Pad pad = new Pad();
    private final Reach now = new Reach();
    private final Telling telling = new Telling();
    private final Reach[] images = new Reach[IMAGES];
    private final boolean[] kept = new boolean[IMAGES];
    private final TripFinder tripFinder = new TripFinder();
    private final ArchQueue archQueue = new ArchQueue();
    private final Ring ring = new Ring();
    private final CalmRows calmRows = new CalmRows();

    public WaterOthers() {
        for (int i = 0; i < IMAGES; i++) {
            images[i] = new Reach();
        }
    }

    // ---- 1 the path, walkers, days

    public int arch(int cell, boolean is) {
        if (!isCell(cell)) {
            return UNKNOWN;
        }
        now.arches = is ? now.arches | 1 << cell : now.arches & ~(1 << cell);
        return now.arches;
    }

    public int gap(int v) {
        if (!isWithin(v, 0, CELLS - 1)) {
            return OUTSIDE;
        }
        int before = now.gap;
        now.gap = v;
        return before;
    }

    public int walker(int walker, int cell, int late) {
        if (!isWithin(walker, 0, WALKERS - 1) || !isCell(cell)) {
            return UNKNOWN;
        }
        if (!isWithin(late, 0, MOST_LATE)) {
            return OUTSIDE;
        }
        now.walkers[walker].arrive(cell, late);
        return Integer.bitCount(now.thereBits());
    }

    public int leave(int walker) {
        if (!now.has(walker)) {
            return UNKNOWN;
        }
        now.walkers[walker].there = false;
        return Integer.bitCount(now.thereBits());
    }

    public int say(int sign) {
        if (!isWithin(sign, 33, 126)) {
            return OUTSIDE;
        }
        return pad.add(sign) ? pad.count : FULL;
    }

    public int wipe() {
        return pad.clear();
    }

    public int fault() {
        return pad.firstFault();
    }

    // ---- 2 days

    public int judge(int what) {
        if (!isWithin(what, 0, 1)) {
            return OUTSIDE;
        }
        telling.tell(pad, now);
        if (telling.isFaulty) {
            return NO;
        }
        return what == 0 ? telling.barredAct : telling.barredWhy;
    }

    public int done() {
        telling.tell(pad, now);
        if (!telling.canBe) {
            return NO;
        }
        now.copy(telling.reach);
        pad.clear();
        return telling.acts;
    }

    public int behind(int walker, int what) {
        if (!now.has(walker)) {
            return UNKNOWN;
        }
        if (!isWithin(what, 0, 2)) {
            return OUTSIDE;
        }
        telling.tell(pad, now);
        if (!telling.canBe) {
            return NO;
        }
        Reach end = telling.reach;
        Walker one = end.walkers[walker];
        switch (what) {
            case 0:
                return one.was[0];
            case 1:
                return end.otherCell(one);
            default:
                return one.parted ? 1 : 0;
        }
    }

    public int then(int what) {
        if (!isWithin(what, 0, 4)) {
            return OUTSIDE;
        }
        telling.tell(pad, now);
        if (!telling.canBe) {
            return NO;
        }
        switch (what) {
            case 0:
                return telling.reach.wind ? 1 : 0;
            case 1:
                return telling.reach.beat;
            case 2:
                return telling.reach.partedCount();
            case 3:
                return telling.partingAct;
            default:
                return telling.partingWho;
        }
    }

    public int standing(int cell, int what) {
        if (!isCell(cell)) {
            return UNKNOWN;
        }
        if (!isWithin(what, 0, 1)) {
            return OUTSIDE;
        }
        return what == 0 ? now.walkersIn(cell) : now.othersIn(cell);
    }

    // ---- 3 trips, meetings, arches

    public int trip(int walker, int cell, int what) {
        if (!now.has(walker) || !isCell(cell)) {
            return UNKNOWN;
        }
        if (!isWithin(what, 0, 1)) {
            return OUTSIDE;
        }
        Walker one = now.walkers[walker];
        tripFinder.find(one, cell, now.isHeld(one) ? now.gap : NONE);
        return what == 0 ? tripFinder.acts : tripFinder.first;
    }

    public int again(int walker, int what) {
        if (!now.has(walker)) {
            return UNKNOWN;
        }
        if (!isWithin(what, 0, 1)) {
            return OUTSIDE;
        }
        if (!now.walkers[walker].parted) {
            return STATE;
        }
        return meeting(now.walkers[walker], what == 1);
    }

    public int order(int a, int b, int what) {
        if (!isWithin(a, 0, 999999) || !isWithin(b, 0, 999999) || !isWithin(what, 0, 1)) {
            return OUTSIDE;
        }
        archQueue.settle(a, b);
        return what == 0 ? archQueue.leastWait : archQueue.leastOrder;
    }

    // ---- 4 others, lengths, calm beats

    public int seen(int beat, int cell) {
        if (!isCell(cell)) {
            return UNKNOWN;
        }
        if (!isWithin(beat, 0, Sights.LAST_SEEN)) {
            return OUTSIDE;
        }
        return now.sights.add(beat, cell) ? now.sights.count : FULL;
    }

    public int forget() {
        int before = now.sights.count;
        now.sights.count = 0;
        return before;
    }

    public int fits(int i) {
        return i == -1 ? ring.countFits(now.sights) : ring.fitAt(now.sights, i);
    }

    public int ask(int what) {
        if (!isWithin(what, 0, 1)) {
            return OUTSIDE;
        }
        ring.seekQuestion(now.sights);
        return what == 0 ? ring.askBeat : ring.askLeft;
    }

    public int lengths(int a, int b, int what) {
        if (!isWithin(a, 0, 99) || !isWithin(b, 0, 99) || !isWithin(what, 0, 1)) {
            return OUTSIDE;
        }
        int times = winningTimes(Math.max(a, b), Math.min(a, b));
        if (what == 0) {
            return times > 0 ? 1 : 0;
        }
        return times > 0 ? times : NONE;
    }

    public long calm(int n, int t, int r, int what, int part) {
        boolean isAsTold = isWithin(n, 0, CalmRows.MOST_BEATS) && isWithin(t, 0, 10)
                && isWithin(r, 0, CalmRows.MOST_BEATS) && isWithin(what, 0, 1) && isWithin(part, 0, 1);
        if (!isAsTold) {
            return LOST + OUTSIDE;
        }
        long upper = what == 0 ? calmRows.withRow(n, t, r) : calmRows.longestRows(n, t);
        long lower = CalmRows.tenTo(n);
        long common = commonDivisor(upper, lower);
        if (common < 1) {
            return part == 0 ? upper : lower;
        }
        return part == 0 ? upper / common : lower / common;
    }

    public int year(int seed, int m, int what) {
        if (!isWithin(seed, 0, 9999) || !isWithin(m, 1, 99) || !isWithin(what, 0, 2)) {
            return OUTSIDE;
        }
        Reach drawn = telling.reach;
        drawn.copy(now);
        drawYear(drawn, seed, m);
        switch (what) {
            case 0:
                return drawn.cellSum();
            case 1:
                return drawn.partedCount();
            default:
                return drawn.wind ? 1 : 0;
        }
    }

    public int image(int n) {
        if (!isWithin(n, 0, IMAGES - 1)) {
            return OUTSIDE;
        }
        images[n].copy(now);
        kept[n] = true;
        return 1;
    }

    public int restore(int n) {
        if (!isWithin(n, 0, IMAGES - 1)) {
            return OUTSIDE;
        }
        if (!kept[n]) {
            return STATE;
        }
        now.copy(images[n]);
        return 1;
    }

    public int told(int what) {
        if (what >= 10 && now.has(what / 10 - 1)) {
            return toldOfWalker(now.walkers[what / 10 - 1], what % 10);
        }
        switch (what) {
            case 0:
                return pad.count;
            case 1:
                return now.thereBits();
            case 2:
                return now.arches;
            case 3:
                return now.gap;
            case 4:
                return now.wind ? 1 : 0;
            case 5:
                return now.beat;
            case 6:
                return now.sights.count;
            default:
                return OUTSIDE;
        }
    }

    // ---- what the calls share

    private static boolean isWithin(int v, int least, int most) {
        return v >= least && v <= most;
    }

    private static boolean isCell(int cell) {
        return isWithin(cell, 0, CELLS - 1);
    }

    private int toldOfWalker(Walker one, int what) {
        switch (what) {
            case 0:
                return one.was[0];
            case 1:
                return one.late;
            case 2:
                return now.otherCell(one);
            case 3:
                return one.parted ? 1 : 0;
            case 9:
                if (!one.parted) {
                    return NONE;
                }
                return one.strayEast ? 1 : 0;
            default:
                return isWithin(what, 4, 8) ? one.was[what - 3] : OUTSIDE;
        }
    }

    /** How many beats it takes him and his parted other to be in one cell, or which cell that is. */
    private static int meeting(Walker one, boolean where) {
        int other = one.strayCell;
        boolean east = one.strayEast;
        // There and back takes fewer beats than this, so the other comes by even if he only waits.
        for (int beats = 0; beats < 2 * CELLS; beats++) {
            if (Math.abs(other - one.was[0]) <= beats) {
                return where ? other : beats;
            }
            east = isEastNext(other, east);
            other += east ? 1 : -1;
        }
        return NONE;
    }

    /** Which way a parted other goes in the next beat: it turns where the path ends. */
    private static boolean isEastNext(int cell, boolean east) {
        return east ? cell < CELLS - 1 : cell <= 0;
    }

    /** The fewest times with which the beginner wins; 0: he can not. */
    private static int winningTimes(int longer, int shorter) {
        if (shorter < 1) {
            return 0;
        }
        int most = longer / shorter;
        int rest = longer % shorter;
        if (rest == 0 || !canBeginnerWin(shorter, rest)) {
            return most;
        }
        // One time fewer forces the other player to leave shorter and rest, with which one wins.
        return most - 1;
    }

    /** Whoever first has a choice (twice or more, or nothing left) wins; till then each move is forced. */
    private static boolean canBeginnerWin(int longer, int shorter) {
        int high = longer;
        int low = shorter;
        boolean beginner = true;
        for (int turn = 0; turn < 100 && low > 0; turn++) {
            int rest = high % low;
            if (rest == 0 || high / low > 1) {
                return beginner;
            }
            high = low;
            low = rest;
            beginner = !beginner;
        }
        return !beginner;
    }

    private static long commonDivisor(long a, long b) {
        long high = a;
        long low = b;
        // Each two turns halve the greater one, so a long is through in far fewer.
        for (int turn = 0; turn < 200 && low != 0; turn++) {
            long rest = high % low;
            high = low;
            low = rest;
        }
        return high;
    }

    private static void drawYear(Reach reach, int seed, int acts) {
        int x = seed;
        for (int i = 0; i < acts; i++) {
            x = (75 * x + 74) % 65537;
            int who = x % WALKERS;
            char deed = DRAWN[x / WALKERS % 8 & 7];
            if (reach.whyNot(who, deed) == 0) {
                reach.act(who, deed);
            }
        }
    }

    /** One walker, and his other: late behind him, or parted and astray. */
    private static final class Walker {
        private boolean there;
        private int late;
        private boolean parted;
        private int strayCell;
        private boolean strayEast;
        /** Where he was so many of his acts ago; 0: where he is. */
        private final int[] was = new int[MOST_LATE + 1];

        void copy(Walker from) {
            there = from.there;
            late = from.late;
            parted = from.parted;
            strayCell = from.strayCell;
            strayEast = from.strayEast;
            System.arraycopy(from.was, 0, was, 0, MOST_LATE + 1);
        }

        void arrive(int cell, int lateBy) {
            there = true;
            late = lateBy;
            beginAt(cell);
        }

        /** As if he had just been told in this cell. */
        void beginAt(int cell) {
            parted = false;
            Arrays.fill(was, cell);
        }

        void stepTo(int cell) {
            for (int i = MOST_LATE; i > 0; i--) {
                was[i] = was[i - 1];
            }
            was[0] = cell;
        }

        /** Where his other, not parted, will be when he has gone to this cell. */
        int otherBehindStep(int cell) {
            return late == 0 ? cell : was[late - 1];
        }

        void part(int cell) {
            parted = true;
            strayCell = cell;
            strayEast = true;
        }

        void stray() {
            strayEast = isEastNext(strayCell, strayEast);
            strayCell += strayEast ? 1 : -1;
        }
    }

    /** All but the pad: what an image keeps, and what days go over. */
    private static final class Reach {
        private int arches;
        private int gap = 3;
        private boolean wind;
        private int beat;
        private final Walker[] walkers = new Walker[WALKERS];
        private final Sights sights = new Sights();

        Reach() {
            for (int i = 0; i < WALKERS; i++) {
                walkers[i] = new Walker();
            }
        }

        void copy(Reach from) {
            arches = from.arches;
            gap = from.gap;
            wind = from.wind;
            beat = from.beat;
            for (int i = 0; i < WALKERS; i++) {
                walkers[i].copy(from.walkers[i]);
            }
            sights.copy(from.sights);
        }

        boolean has(int who) {
            return isWithin(who, 0, WALKERS - 1) && walkers[who].there;
        }

        int thereBits() {
            int bits = 0;
            for (int i = 0; i < WALKERS; i++) {
                bits |= walkers[i].there ? 1 << i : 0;
            }
            return bits;
        }

        int walkersIn(int cell) {
            int bits = 0;
            for (int i = 0; i < WALKERS; i++) {
                bits |= walkers[i].there && walkers[i].was[0] == cell ? 1 << i : 0;
            }
            return bits;
        }

        int othersIn(int cell) {
            int bits = 0;
            for (int i = 0; i < WALKERS; i++) {
                bits |= walkers[i].there && otherCell(walkers[i]) == cell ? 1 << i : 0;
            }
            return bits;
        }

        int partedCount() {
            int count = 0;
            for (int i = 0; i < WALKERS; i++) {
                count += walkers[i].there && walkers[i].parted ? 1 : 0;
            }
            return count;
        }

        int cellSum() {
            int sum = 0;
            for (int i = 0; i < WALKERS; i++) {
                sum += walkers[i].there ? walkers[i].was[0] : 0;
            }
            return sum;
        }

        /** NONE: wind hides it. */
        int otherCell(Walker one) {
            if (one.parted) {
                return one.strayCell;
            }
            return wind ? NONE : one.was[one.late];
        }

        /** Whether his other is somewhere and still his, so that the gap holds him. */
        boolean isHeld(Walker one) {
            return !wind && !one.parted;
        }

        /** The least reason for which the act can not be; 0: it can. */
        int whyNot(int who, char deed) {
            if (deed == WIND) {
                return 0;
            }
            if (deed == BEAT) {
                return beat >= LAST_BEAT ? 6 : 0;
            }
            if (!has(who)) {
                return 1;
            }
            if (deed == STONE) {
                return isStoneInReach(walkers[who]) ? 0 : 5;
            }
            if (deed == STAY) {
                return 0;
            }
            return whyNoStep(who, walkers[who].was[0] + (deed == GO_EAST ? 1 : -1));
        }

        private boolean isStoneInReach(Walker one) {
            return one.parted ? one.strayCell == one.was[0] : !wind;
        }

        private int whyNoStep(int who, int cell) {
            if (!isCell(cell)) {
                return 2;
            }
            Walker one = walkers[who];
            if (isHeld(one) && Math.abs(cell - one.otherBehindStep(cell)) > gap) {
                return 3;
            }
            boolean isArch = (arches >> cell & 1) == 1;
            boolean isTaken = ((walkersIn(cell) | othersIn(cell)) & ~(1 << who)) != 0;
            return isArch && isTaken ? 4 : 0;
        }

        /** Does an act that can be: whyNot is asked ahead of it. */
        void act(int who, char deed) {
            if (deed == WIND) {
                turnWind();
            } else if (deed == BEAT) {
                passBeat();
            } else if (has(who)) {
                actAlone(walkers[who], deed);
            }
        }

        private void actAlone(Walker one, char deed) {
            if (deed == STONE && one.parted) {
                one.beginAt(one.was[0]);
            } else if (deed == STONE) {
                one.part(otherCell(one));
            } else if (deed == GO_WEST) {
                one.stepTo(one.was[0] - 1);
            } else if (deed == GO_EAST) {
                one.stepTo(one.was[0] + 1);
            } else {
                one.stepTo(one.was[0]);
            }
        }

        private void turnWind() {
            wind = !wind;
            for (int i = 0; i < WALKERS; i++) {
                if (!walkers[i].parted) {
                    walkers[i].beginAt(walkers[i].was[0]);
                }
            }
        }

        private void passBeat() {
            beat++;
            for (int i = 0; i < WALKERS; i++) {
                if (walkers[i].there && walkers[i].parted) {
                    walkers[i].stray();
                }
            }
        }
    }

    /** The text of days. */
    private static final class Pad {
        private static final int ROOM = 60;
        private final char[] signs = new char[ROOM];
        private int count;

        boolean add(int sign) {
            if (count >= ROOM) {
                return false;
            }
            signs[count] = (char) sign;
            count++;
            return true;
        }

        int clear() {
            int before = count;
            count = 0;
            return before;
        }

        int firstFault() {
            boolean isAwaited = false;
            for (int i = 0; i < count && i < ROOM; i++) {
                boolean canStand = isAwaited ? isDeed(signs[i]) : isLetter(signs[i]) || isAlone(signs[i]);
                if (!canStand) {
                    return i;
                }
                isAwaited = isLetter(signs[i]);
            }
            return isAwaited ? count : NONE;
        }

        static boolean isLetter(char sign) {
            return isWithin(sign, 'A', 'A' + WALKERS - 1);
        }

        private static boolean isAlone(char sign) {
            return sign == WIND || sign == BEAT;
        }

        /** What must come behind a walker's letter. */
        private static boolean isDeed(char sign) {
            return sign == GO_WEST || sign == GO_EAST || sign == STAY || sign == STONE;
        }
    }

    /** Days told on a copy of the reach, up to the first act that can not be. */
    private static final class Telling {
        private final Reach reach = new Reach();
        private boolean isFaulty;
        private boolean canBe;
        private int acts;
        private int barredAct;
        private int barredWhy;
        private int partingAct;
        private int partingWho;

        void tell(Pad pad, Reach from) {
            reach.copy(from);
            acts = 0;
            barredAct = NONE;
            barredWhy = NONE;
            partingAct = NONE;
            partingWho = NONE;
            isFaulty = pad.firstFault() != NONE;
            int who = NONE;
            for (int i = 0; i < pad.count && i < Pad.ROOM && !isFaulty && barredAct == NONE; i++) {
                char sign = pad.signs[i];
                if (Pad.isLetter(sign)) {
                    who = sign - 'A';
                } else {
                    tellAct(who, sign);
                }
            }
            canBe = !isFaulty && barredAct == NONE;
        }

        private void tellAct(int who, char deed) {
            int why = reach.whyNot(who, deed);
            if (why != 0) {
                barredAct = acts;
                barredWhy = why;
                return;
            }
            reach.act(who, deed);
            boolean isParting = deed == STONE && reach.has(who) && reach.walkers[who].parted;
            if (isParting && partingAct == NONE) {
                partingAct = acts;
                partingWho = who;
            }
            acts++;
        }
    }

    /** Breadth first over where he is and his last acts, which together tell where his other is. */
    private static final class TripFinder {
        private static final int WAYS = 3;
        /** How many rows of so many acts there are. */
        private static final int[] ROWS = {1, 3, 9, 27, 81, 243};
        private static final int PLACES = CELLS * 243;
        /** What he does by the numbers of the first act: wait, west, east. */
        private static final int[] STEPS = {0, -1, 1};
        /** A queue's entry is its place, the first act above it, how many acts above that. */
        private static final int FIRST_SHIFT = 13;
        private static final int ACTS_SHIFT = 15;
        private final int[] queue = new int[PLACES];
        private final int[] metBits = new int[PLACES / 32 + 1];
        private int queued;
        private int acts;
        private int first;

        /** A gap of NONE: nothing holds him. */
        void find(Walker one, int goal, int gap) {
            acts = NONE;
            first = NONE;
            int cell = one.was[0];
            if (cell == goal) {
                acts = 0;
            } else if (gap == NONE) {
                acts = Math.abs(goal - cell);
                first = goal < cell ? 1 : 2;
            } else {
                search(one, goal, gap);
            }
        }

        private void search(Walker one, int goal, int gap) {
            Arrays.fill(metBits, 0);
            queued = 0;
            int rows = ROWS[one.late];
            offer(one.was[0] * rows + lastActs(one), 0, 0);
            for (int i = 0; i < PLACES && i < queued && acts == NONE; i++) {
                for (int way = 0; way < WAYS && acts == NONE; way++) {
                    tryWay(queue[i], way, one.late, goal, gap);
                }
            }
        }

        /** The queue rises by the acts' numbers, so what comes to the goal first begins with the least. */
        private void tryWay(int entry, int way, int late, int goal, int gap) {
            int rows = ROWS[late];
            int place = entry & (1 << FIRST_SHIFT) - 1;
            int gone = entry >> ACTS_SHIFT;
            int cell = place / rows + STEPS[way];
            int last = (place % rows * WAYS + way) % rows;
            if (!isCell(cell) || way != 0 && Math.abs(lead(last, late)) > gap) {
                return;
            }
            int begun = gone == 0 ? way : entry >> FIRST_SHIFT & 3;
            if (cell == goal) {
                acts = gone + 1;
                first = begun;
            } else {
                offer(cell * rows + last, begun, gone + 1);
            }
        }

        private void offer(int place, int begun, int gone) {
            int bit = 1 << (place & 31);
            if (!isWithin(place, 0, PLACES - 1) || queued >= PLACES || (metBits[place >> 5] & bit) != 0) {
                return;
            }
            metBits[place >> 5] |= bit;
            queue[queued] = place | begun << FIRST_SHIFT | gone << ACTS_SHIFT;
            queued++;
        }

        private static int lastActs(Walker one) {
            int last = 0;
            for (int ago = one.late; ago > 0; ago--) {
                int step = one.was[ago - 1] - one.was[ago];
                last = last * WAYS + (step == 0 ? 0 : step < 0 ? 1 : 2);
            }
            return last;
        }

        /** How many cells he is east of his other. */
        private static int lead(int lastActs, int late) {
            int rest = lastActs;
            int sum = 0;
            for (int i = 0; i < late; i++) {
                sum += STEPS[rest % WAYS];
                rest /= WAYS;
            }
            return sum;
        }
    }

    /** Who goes first through an arch: every order, the least first. */
    private static final class ArchQueue {
        private static final int MORE_THAN_ALL = 1000000;
        private final int[] comes = new int[WALKERS];
        private final int[] lasts = new int[WALKERS];
        private int comers;
        private int leastWait;
        private int leastOrder;

        void settle(int a, int b) {
            int beats = a;
            int spans = b;
            comers = 0;
            for (int i = WALKERS - 1; i >= 0; i--) {
                comes[i] = beats % 10;
                lasts[i] = spans % 10;
                comers |= lasts[i] > 0 ? 1 << i : 0;
                beats /= 10;
                spans /= 10;
            }
            leastWait = MORE_THAN_ALL;
            letThrough(comers, 0, 0, 0);
        }

        /** Each level lets one through, so it is six deep at most. */
        private void letThrough(int left, int free, int waited, int passed) {
            if (waited >= leastWait) {
                return;
            }
            if (left == 0) {
                leastWait = waited;
                leastOrder = passed;
                return;
            }
            for (int i = 0; i < WALKERS; i++) {
                if ((left >> i & 1) == 1) {
                    int start = Math.max(free, comes[i]);
                    letThrough(left & ~(1 << i), start + lasts[i], waited + start - comes[i], passed * 10 + i);
                }
            }
        }
    }

    /** Where an other was seen, and when. */
    private static final class Sights {
        private static final int ROOM = 8;
        private static final int LAST_SEEN = 60;
        private final int[] beats = new int[ROOM];
        private final int[] cells = new int[ROOM];
        private int count;

        boolean add(int beat, int cell) {
            if (count >= ROOM) {
                return false;
            }
            beats[count] = beat;
            cells[count] = cell;
            count++;
            return true;
        }

        void copy(Sights from) {
            count = from.count;
            System.arraycopy(from.beats, 0, beats, 0, ROOM);
            System.arraycopy(from.cells, 0, cells, 0, ROOM);
        }
    }

    /** The ring: all from where, how fast and how late that fit the sights, by their rising numbers. */
    private static final class Ring {
        private static final int FASTEST = 3;
        private static final int PACES = 2 * FASTEST + 1;
        private static final int LATES = 10;
        private static final int ALL = CELLS * PACES * LATES;
        /** How many fits are in a cell at a beat; beats a ring's length apart are alike. */
        private final int[] crowds = new int[CELLS * CELLS];
        private int askBeat;
        private int askLeft;

        int countFits(Sights sights) {
            int count = 0;
            for (int k = 0; k < ALL; k++) {
                count += isFit(k, sights) ? 1 : 0;
            }
            return count;
        }

        int fitAt(Sights sights, int i) {
            int count = 0;
            for (int k = 0; k < ALL && i >= 0; k++) {
                if (!isFit(k, sights)) {
                    continue;
                }
                if (count == i) {
                    return 1000 * (k / (PACES * LATES)) + k % (PACES * LATES);
                }
                count++;
            }
            return NONE;
        }

        void seekQuestion(Sights sights) {
            fillCrowds(sights);
            askBeat = NONE;
            askLeft = NONE;
            for (int beat = 0; beat < CELLS; beat++) {
                int left = greatestCrowd(beat);
                if (left > 0 && (askLeft == NONE || left < askLeft)) {
                    askBeat = beat;
                    askLeft = left;
                }
            }
        }

        private void fillCrowds(Sights sights) {
            Arrays.fill(crowds, 0);
            for (int k = 0; k < ALL; k++) {
                if (isFit(k, sights)) {
                    for (int beat = 0; beat < CELLS; beat++) {
                        crowds[beat * CELLS + cellAt(k, beat)]++;
                    }
                }
            }
        }

        private int greatestCrowd(int beat) {
            int greatest = 0;
            for (int cell = 0; cell < CELLS; cell++) {
                greatest = Math.max(greatest, crowds[beat * CELLS + cell]);
            }
            return greatest;
        }

        private static boolean isFit(int k, Sights sights) {
            for (int i = 0; i < sights.count && i < Sights.ROOM; i++) {
                if (cellAt(k, sights.beats[i]) != sights.cells[i]) {
                    return false;
                }
            }
            return true;
        }

        private static int cellAt(int k, int beat) {
            int from = k / (PACES * LATES);
            int pace = k / LATES % PACES - FASTEST;
            int late = k % LATES;
            return Math.floorMod(from + pace * (beat - late), CELLS);
        }
    }

    /** Rows of calm beats, counted among ten to the n equal chances. */
    private static final class CalmRows {
        private static final int MOST_BEATS = 15;
        /** Chances by how many calm beats stand at the end. */
        private final long[] ends = new long[MOST_BEATS + 1];

        static long tenTo(int n) {
            long power = 1;
            for (int i = 0; i < n; i++) {
                power *= 10;
            }
            return power;
        }

        long withRow(int n, int t, int r) {
            return tenTo(n) - withoutRow(n, t, r);
        }

        /** A longest row of k is counted once for each of the lengths 1 to k. */
        long longestRows(int n, int t) {
            long sum = 0;
            for (int r = 1; r <= n; r++) {
                sum += withRow(n, t, r);
            }
            return sum;
        }

        private long withoutRow(int n, int t, int r) {
            if (r < 1 || r > MOST_BEATS) {
                return 0;
            }
            Arrays.fill(ends, 0);
            ends[0] = 1;
            for (int beat = 0; beat < n; beat++) {
                long before = sumOfEnds(r);
                for (int k = r - 1; k > 0; k--) {
                    ends[k] = ends[k - 1] * t;
                }
                ends[0] = before * (10 - t);
            }
            return sumOfEnds(r);
        }

        private long sumOfEnds(int r) {
            long sum = 0;
            for (int k = 0; k < r && k <= MOST_BEATS; k++) {
                sum += ends[k];
            }
            return sum;
        }
    }
}
