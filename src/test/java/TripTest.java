import java.util.ArrayDeque;
import java.util.Arrays;
import java.util.HashMap;
import java.util.Map;
import java.util.Random;

/** Promises 14 to 16: trip, again, order; the searches are held against plainer ones. */
public final class TripTest {
    private static final Due DUE = new Due("TripTest");
    private static final int NONE = WaterOthers.NONE;

    public static void main(String[] args) {
        trips();
        tripsByDays();
        tripsOfAllKinds();
        tripRefusals();
        meetings();
        meetingsByDays();
        orders();
        ordersByTrying();
        DUE.end();
    }

    private static void tripIs(WaterOthers x, int walker, int cell, int acts, int first) {
        DUE.is("trip(" + walker + ", " + cell + ", 0)", x.trip(walker, cell, 0), acts);
        DUE.is("trip(" + walker + ", " + cell + ", 1)", x.trip(walker, cell, 1), first);
    }

    private static void trips() {
        WaterOthers x = new WaterOthers();
        x.walker(0, 5, 5);
        x.walker(1, 5, 0);
        x.gap(0);
        tripIs(x, 0, 5, 0, NONE);
        tripIs(x, 0, 6, NONE, NONE);
        tripIs(x, 1, 19, 14, 2);
        tripIs(x, 1, 0, 5, 1);
        x.gap(5);
        tripIs(x, 0, 19, 14, 2);
        // Arches, and who is in them, do not matter.
        x.walker(2, 6, 0);
        x.arch(6, true);
        tripIs(x, 0, 7, 2, 2);
        // Nor does the gap in wind, or if his other has parted.
        x.gap(0);
        DUE.does(x, "~", 1);
        tripIs(x, 0, 0, 5, 1);
        tripIs(x, 0, 5, 0, NONE);
        DUE.does(x, "~A*", 2);
        tripIs(x, 0, 12, 7, 2);
        // A gap that has become less: waiting is never held, so he waits his other out.
        x.walker(0, 5, 2);
        x.gap(2);
        DUE.does(x, "A=A<A<", 3);
        x.gap(1);
        tripIs(x, 0, 2, 2, 0);
        tripIs(x, 0, 4, 1, 2);
        tripIs(x, 0, 0, 6, 0);
    }

    /** The fewest acts, sought with the object's own days: image, done and restore. */
    private static void tripsByDays() {
        String[] starts = {"", "A>", "A>A>", "A<A=A>", "A<A<A<", "A>A<A>A="};
        for (int late = 0; late <= 3; late++) {
            for (int gap = 0; gap <= 3; gap++) {
                for (String start : starts) {
                    compareWithDays(late, gap, start);
                }
            }
        }
    }

    private static void compareWithDays(int late, int gap, String start) {
        int most = 7;
        WaterOthers x = new WaterOthers();
        x.walker(0, 4, late);
        Due.write(x, start);
        if (x.done() < 0) {
            return;
        }
        x.gap(gap);
        int[] fewest = new int[20];
        int[] first = new int[20];
        Arrays.fill(fewest, NONE);
        Arrays.fill(first, NONE);
        fewest[x.told(10)] = 0;
        for (int acts = 1; acts <= most; acts++) {
            int rows = (int) Math.round(Math.pow(3, acts));
            for (int row = 0; row < rows; row++) {
                String level = daysOf(row, acts);
                Due.write(x, level);
                int cell = x.behind(0, 0);
                if (cell >= 0 && fewest[cell] == NONE) {
                    fewest[cell] = acts;
                    first[cell] = "=<>".indexOf(level.charAt(1));
                }
            }
        }
        x.wipe();
        for (int cell = 0; cell < 20; cell++) {
            if (fewest[cell] != NONE) {
                tripIs(x, 0, cell, fewest[cell], first[cell]);
            } else {
                int acts = x.trip(0, cell, 0);
                DUE.isTrue("trip to " + cell + " takes more than " + most, acts == NONE || acts > most);
            }
        }
    }

    /** The row-th of all days of so many acts, rising by what he does: waits, west, east. */
    private static String daysOf(int row, int acts) {
        StringBuilder days = new StringBuilder();
        int rest = row;
        for (int i = 0; i < acts; i++) {
            days.insert(0, "A" + "=<>".charAt(rest % 3));
            rest /= 3;
        }
        return days.toString();
    }

    /** Every late and gap from many beginnings, against a search over texts of where he was. */
    private static void tripsOfAllKinds() {
        String[] starts = {"", "A=", "A>A>A>A>A>", "A<A<A<A<A=", "A<A<A>A>A=A<", "A>A>A=A<A<A<A>"};
        for (int late = 0; late <= 5; late++) {
            for (int gap = 0; gap <= 5; gap++) {
                for (int cell : new int[] {0, 3, 9, 14, 19}) {
                    for (String start : starts) {
                        compareWithTexts(late, gap, cell, start);
                    }
                }
            }
        }
    }

    private static void compareWithTexts(int late, int gap, int from, String start) {
        WaterOthers x = new WaterOthers();
        x.gap(19);
        x.walker(0, from, late);
        Due.write(x, start);
        if (x.done() < 0) {
            return;
        }
        x.gap(gap);
        StringBuilder was = new StringBuilder().append((char) ('a' + x.told(10)));
        for (int ago = 1; ago <= late; ago++) {
            was.append((char) ('a' + x.told(13 + ago)));
        }
        int[][] found = searchTexts(was.toString(), gap);
        for (int cell = 0; cell < 20; cell += 1) {
            tripIs(x, 0, cell, found[0][cell], found[1][cell]);
        }
    }

    /** Letters tell where he is, was one act ago, and so on; the last is where his other is. */
    private static int[][] searchTexts(String begin, int gap) {
        int[][] found = new int[2][20];
        Arrays.fill(found[0], NONE);
        Arrays.fill(found[1], NONE);
        found[0][begin.charAt(0) - 'a'] = 0;
        Map<String, int[]> met = new HashMap<>();
        met.put(begin, new int[] {0, NONE});
        ArrayDeque<String> queue = new ArrayDeque<>();
        queue.add(begin);
        while (!queue.isEmpty()) {
            String was = queue.remove();
            int[] how = met.get(was);
            for (int act = 0; act < 3; act++) {
                int cell = was.charAt(0) - 'a' + (act == 0 ? 0 : act == 1 ? -1 : 1);
                if (cell < 0 || cell > 19) {
                    continue;
                }
                String next = (char) ('a' + cell) + was.substring(0, was.length() - 1);
                int off = Math.abs(next.charAt(0) - next.charAt(next.length() - 1));
                if (act != 0 && off > gap) {
                    continue;
                }
                int[] nextHow = {how[0] + 1, how[0] == 0 ? act : how[1]};
                int[] known = met.get(next);
                if (known == null) {
                    met.put(next, nextHow);
                    queue.add(next);
                } else if (known[0] == nextHow[0]) {
                    known[1] = Math.min(known[1], nextHow[1]);
                }
            }
        }
        for (Map.Entry<String, int[]> one : met.entrySet()) {
            int cell = one.getKey().charAt(0) - 'a';
            int[] how = one.getValue();
            if (how[0] == 0 || cell == begin.charAt(0) - 'a') {
                continue;
            }
            if (found[0][cell] == NONE || how[0] < found[0][cell]) {
                found[0][cell] = how[0];
                found[1][cell] = how[1];
            } else if (how[0] == found[0][cell]) {
                found[1][cell] = Math.min(found[1][cell], how[1]);
            }
        }
        return found;
    }

    private static void tripRefusals() {
        WaterOthers x = new WaterOthers();
        x.walker(3, 5, 1);
        for (int who : new int[] {-1, 0, 6}) {
            DUE.refuses(x, "trip(" + who + ", 0, 0)", () -> x.trip(who, 0, 0), WaterOthers.UNKNOWN);
            DUE.refuses(x, "trip(" + who + ", 0, 2)", () -> x.trip(who, 0, 2), WaterOthers.UNKNOWN);
        }
        for (int cell : new int[] {-1, 20}) {
            DUE.refuses(x, "trip(3, " + cell + ", 0)", () -> x.trip(3, cell, 0), WaterOthers.UNKNOWN);
            DUE.refuses(x, "trip(3, " + cell + ", 2)", () -> x.trip(3, cell, 2), WaterOthers.UNKNOWN);
        }
        DUE.refuses(x, "trip(3, 0, 2)", () -> x.trip(3, 0, 2), WaterOthers.OUTSIDE);
        DUE.refuses(x, "trip(3, 0, -1)", () -> x.trip(3, 0, -1), WaterOthers.OUTSIDE);
        DUE.refuses(x, "trip(3, 9, 0)", () -> x.trip(3, 9, 0), 4);
    }

    private static void meetings() {
        WaterOthers x = new WaterOthers();
        x.walker(0, 5, 0);
        DUE.refuses(x, "again(0, 0)", () -> x.again(0, 0), WaterOthers.STATE);
        DUE.refuses(x, "again(0, 2)", () -> x.again(0, 2), WaterOthers.OUTSIDE);
        DUE.refuses(x, "again(0, -1)", () -> x.again(0, -1), WaterOthers.OUTSIDE);
        DUE.refuses(x, "again(1, 0)", () -> x.again(1, 0), WaterOthers.UNKNOWN);
        DUE.refuses(x, "again(-1, 2)", () -> x.again(-1, 2), WaterOthers.UNKNOWN);
        DUE.refuses(x, "again(6, 0)", () -> x.again(6, 0), WaterOthers.UNKNOWN);
        DUE.does(x, "A*", 1);
        DUE.refuses(x, "again(0, 2) parted", () -> x.again(0, 2), WaterOthers.OUTSIDE);
        DUE.is("again(0, 0) together", x.again(0, 0), 0);
        DUE.is("again(0, 1) together", x.again(0, 1), 5);
        DUE.does(x, ".", 1);
        DUE.is("again(0, 0) behind it", x.again(0, 0), 14);
        DUE.is("again(0, 1) behind it", x.again(0, 1), 18);
    }

    /** Each of many beginnings, by following all that he can do between the beats. */
    private static void meetingsByDays() {
        for (int cell = 0; cell < 20; cell++) {
            for (int beats = 0; beats < 40; beats += 3) {
                for (int step = -1; step <= 1; step++) {
                    compareMeeting(cell, beats, step);
                }
            }
        }
    }

    private static void compareMeeting(int cell, int beats, int step) {
        WaterOthers x = new WaterOthers();
        x.gap(0);
        x.walker(0, cell, 2);
        Due.write(x, "A*" + (step == 0 ? "" : step > 0 ? "A>" : "A<") + ".".repeat(beats));
        if (x.done() < 0) {
            return;
        }
        boolean[] can = new boolean[20];
        can[x.told(10)] = true;
        int other = x.told(12);
        int way = x.told(19) == 1 ? 1 : -1;
        int count = 0;
        while (!can[other]) {
            boolean[] next = new boolean[20];
            for (int i = 0; i < 20; i++) {
                next[i] = can[i] || i > 0 && can[i - 1] || i < 19 && can[i + 1];
            }
            can = next;
            if (other + way < 0 || other + way > 19) {
                way = -way;
            }
            other += way;
            count++;
        }
        DUE.is("again(0, 0) from " + cell + ", " + beats + ", " + step, x.again(0, 0), count);
        DUE.is("again(0, 1) from " + cell + ", " + beats + ", " + step, x.again(0, 1), other);
    }

    private static void orderIs(int a, int b, int wait, int order) {
        orderIs(new WaterOthers(), a, b, wait, order);
    }

    private static void orderIs(WaterOthers x, int a, int b, int wait, int order) {
        DUE.is("order(" + a + ", " + b + ", 0)", x.order(a, b, 0), wait);
        DUE.is("order(" + a + ", " + b + ", 1)", x.order(a, b, 1), order);
    }

    private static void orders() {
        orderIs(0, 0, 0, 0);
        orderIs(999999, 0, 0, 0);
        orderIs(0, 1, 0, 5);
        orderIs(0, 100000, 0, 0);
        orderIs(0, 100001, 1, 5);
        orderIs(0, 200001, 1, 50);
        // Whoever is there may be kept waiting: the arch stands empty for a beat.
        orderIs(1, 91, 2, 54);
        orderIs(100000, 190000, 2, 1);
        orderIs(0, 111111, 15, 12345);
        WaterOthers x = new WaterOthers();
        DUE.refuses(x, "order(-1, 0, 0)", () -> x.order(-1, 0, 0), WaterOthers.OUTSIDE);
        DUE.refuses(x, "order(0, -1, 0)", () -> x.order(0, -1, 0), WaterOthers.OUTSIDE);
        DUE.refuses(x, "order(1000000, 0, 0)", () -> x.order(1000000, 0, 0), WaterOthers.OUTSIDE);
        DUE.refuses(x, "order(0, 1000000, 0)", () -> x.order(0, 1000000, 0), WaterOthers.OUTSIDE);
        DUE.refuses(x, "order(0, 0, -1)", () -> x.order(0, 0, -1), WaterOthers.OUTSIDE);
        DUE.refuses(x, "order(0, 0, 2)", () -> x.order(0, 0, 2), WaterOthers.OUTSIDE);
    }

    private static void ordersByTrying() {
        Random random = new Random(16);
        WaterOthers x = new WaterOthers();
        for (int i = 0; i < 250; i++) {
            int a = random.nextInt(1000000);
            int b = random.nextInt(1000000);
            if (i % 3 == 0) {
                b = b / 1000 * 1000;
            }
            int[] best = {Integer.MAX_VALUE, 0};
            tryAll(String.format("%06d", a), String.format("%06d", b), "", best);
            // One object all along: nothing of an earlier call may stay.
            orderIs(x, a, b, best[0], best[1]);
        }
    }

    private static void tryAll(String a, String b, String gone, int[] best) {
        boolean isAll = true;
        for (int i = 0; i < 6; i++) {
            if (b.charAt(i) != '0' && gone.indexOf('0' + i) < 0) {
                isAll = false;
                tryAll(a, b, gone + i, best);
            }
        }
        if (isAll) {
            int wait = waited(a, b, gone);
            int order = gone.isEmpty() ? 0 : Integer.parseInt(gone);
            if (wait < best[0] || wait == best[0] && order < best[1]) {
                best[0] = wait;
                best[1] = order;
            }
        }
    }

    private static int waited(String a, String b, String order) {
        int beat = 0;
        int sum = 0;
        for (int k = 0; k < order.length(); k++) {
            int who = order.charAt(k) - '0';
            int comes = a.charAt(who) - '0';
            while (beat < comes) {
                beat++;
            }
            sum += beat - comes;
            beat += b.charAt(who) - '0';
        }
        return sum;
    }
}
