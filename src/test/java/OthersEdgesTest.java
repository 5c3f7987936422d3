import java.util.ArrayList;
import java.util.Arrays;
import java.util.List;

/** The edges that the document names in part 4 and in promises 17 to 26, sentence by sentence. */
public final class OthersEdgesTest {
    private static final Edge EDGE = new Edge("OthersEdgesTest");

    public static void main(String[] args) {
        seeing();
        forgetting();
        fitting();
        asking();
        lengthRefusals();
        lengths();
        calmRefusals();
        calm();
        yearRefusals();
        years();
        yearsFromAllAsItIs();
        images();
        told();
        EDGE.end();
    }

    private static String[] eightSights() {
        String[] lines = new String[8];
        for (int i = 0; i < 8; i++) {
            lines[i] = "seen " + (i % 2 == 0 ? 0 : 60) + " 7 : " + (i + 1);
        }
        return lines;
    }

    private static void seeing() {
        EDGE.holds("CELLS 0 to 19: seen", "seen 3 -1 : UNKNOWN", "seen 3 0 : 1", "seen 3 19 : 2", "seen 3 20 : UNKNOWN",
                "seen 3 MIN : UNKNOWN", "seen 3 MAX : UNKNOWN", "told 6 : 2");
        EDGE.holds("a beat (0 to 60)", "seen -1 3 : OUTSIDE", "seen 0 3 : 1", "seen 60 3 : 2", "seen 61 3 : OUTSIDE",
                "seen MIN 3 : OUTSIDE", "seen MAX 3 : OUTSIDE", "told 6 : 2");
        EDGE.holds("seen: UNKNOWN ahead of OUTSIDE", "seen -1 -1 : UNKNOWN", "seen 61 20 : UNKNOWN", "told 6 : 0");
        EDGE.holds("SIGHTS, 8 at most", Edge.join(eightSights(), "told 6 : 8", "seen 0 7 : FULL", "seen 60 0 : FULL",
                "seen 1 1 : FULL", "told 6 : 8", "fits -1 : 70"));
        EDGE.holds("seen: OUTSIDE ahead of FULL", Edge.join(eightSights(), "seen -1 7 : OUTSIDE",
                "seen 61 7 : OUTSIDE"));
        EDGE.holds("seen: UNKNOWN ahead of FULL", Edge.join(eightSights(), "seen 0 -1 : UNKNOWN", "seen 0 20 : UNKNOWN",
                "seen 61 20 : UNKNOWN"));
        EDGE.holds("the eighth SIGHT counts", Edge.join(Arrays.copyOf(eightSights(), 7), "fits -1 : 70", "seen 0 8 : 8",
                "fits -1 : 0", "fits 0 : NONE"));
        EDGE.holds("the same SIGHT again is one more", "seen 5 5 : 1", "seen 5 5 : 2", "fits -1 : 70", "told 6 : 2");
    }

    private static void forgetting() {
        EDGE.holds("SIGHTS go: how many there were", "forget : 0", "seen 1 1 : 1", "seen 1 2 : 2", "fits -1 : 0",
                "forget : 2", "told 6 : 0", "fits -1 : 1400", "forget : 0");
        EDGE.holds("SIGHTS go: all eight, and there is room again", Edge.join(eightSights(), "forget : 8", "told 6 : 0",
                "seen 0 8 : 1", "fits -1 : 70"));
    }

    private static void fitting() {
        EDGE.holds("FITS: how many (i = -1), the i-th: no SIGHTS", "fits -1 : 1400", "fits 0 : 0", "fits 1 : 1",
                "fits 9 : 9", "fits 10 : 10", "fits 69 : 69", "fits 70 : 1000", "fits 1398 : 19068",
                "fits 1399 : 19069", "fits 1400 : NONE", "fits 1401 : NONE", "fits MAX : NONE");
        EDGE.holds("the i-th; NONE: ahead of -1", "fits -2 : NONE", "fits -7 : NONE", "fits MIN : NONE");
        EDGE.holds("the i-th (rising); NONE: the last and one more", "seen 0 0 : 1", "seen 1 3 : 2", "fits -1 : 10",
                "fits 0 : 60", "fits 1 : 1067", "fits 2 : 3061", "fits 8 : 15065", "fits 9 : 18066", "fits 10 : NONE");
    }

    /** What is left over by 20, of numbers below 0 and far above, and the ends of v and l. */
    private static void ring() {
        // c and 3 times (0 less 9) is 27 below c: 13 for c = 0.
        EDGE.holds("left over by 20 (0 to 19): below 0", "seen 0 13 : 1", "fits -1 : 70", "fits 0 : 47", "fits 1 : 69");
        // 3 times 60 is 180; -3 times 60 is -180: both are what 0 is.
        EDGE.holds("left over by 20: at beat 60", "seen 60 0 : 1", "fits -1 : 70", "fits 0 : 0", "fits 1 : 10",
                "fits 2 : 20", "fits 3 : 30");
        EDGE.holds("left over by 20: just 20 is 0", "seen 0 19 : 1", "seen 1 0 : 2", "fits -1 : 10", "fits 0 : 41");
        EDGE.holds("left over by 20: just -1 is 19", "seen 0 0 : 1", "seen 1 19 : 2", "fits -1 : 10", "fits 0 : 20");
        for (int v = -4; v <= 4; v++) {
            int cell = (10 + v + 20) % 20;
            EDGE.holds("v CELLS (-3 to 3) a beat: " + v, "seen 0 10 : 1", "seen 1 " + cell + " : 2",
                    "fits -1 : " + (v >= -3 && v <= 3 ? 10 : 0));
        }
        EDGE.holds("l beats (0 to 9) late: v = 1", "seen 0 0 : 1", "seen 1 1 : 2", "fits -1 : 10", "fits 0 : 40",
                "fits 1 : 1041", "fits 9 : 9049", "fits 10 : NONE");
        EDGE.holds("l beats (0 to 9) late: v = 0, all the same", "seen 0 0 : 1", "seen 1 0 : 2", "fits -1 : 10",
                "fits 0 : 30", "fits 9 : 39", "fits 10 : NONE");
    }

    private static void asking() {
        ring();
        EDGE.holds("ask: what = 0, 1; OUTSIDE", "ask -1 : OUTSIDE", "ask 0 : 0", "ask 1 : 70", "ask 2 : OUTSIDE",
                "ask MIN : OUTSIDE", "ask MAX : OUTSIDE");
        EDGE.holds("NONE: nothing fits", "seen 0 0 : 1", "seen 0 1 : 2", "ask 0 : NONE", "ask 1 : NONE", "forget : 2",
                "ask 0 : 0", "ask 1 : 70");
        EDGE.holds("ask: refused, if nothing fits too", "seen 0 0 : 1", "seen 0 1 : 2", "ask -1 : OUTSIDE",
                "ask 2 : OUTSIDE");
        EDGE.holds("ASK: the least: what was asked does not tell more", "seen 0 0 : 1", "ask 0 : 1", "ask 1 : 10");
        EDGE.holds("ASK: the least: each beat leaves as many", "seen 0 0 : 1", "seen 1 2 : 2", "fits -1 : 10",
                "ask 0 : 0", "ask 1 : 10");
        EDGE.holds("ASK: how many: the first and the last of all are among them", "seen 0 0 : 1", "seen 1 17 : 2",
                "fits 0 : 0", "ask 0 : 0", "ask 1 : 10", "forget : 2", "seen 0 12 : 1", "seen 1 15 : 2",
                "fits 9 : 19069", "ask 0 : 0", "ask 1 : 10");
        // At beat 10 v and v and 2 are alike, at beat 5 v and v and 4.
        EDGE.holds("ASK: v is -3, -1, 1 or 3 yet", "seen 0 0 : 1", "seen 10 10 : 2", "fits -1 : 40", "ask 0 : 1",
                "ask 1 : 10");
        EDGE.holds("ASK: SIGHTS are full", Edge.join(eightSights(), "ask 0 : 1", "ask 1 : 10"));
    }

    private static void lengthRefusals() {
        EDGE.holds("lengths a (0 to 99)", "lengths -1 5 0 : OUTSIDE", "lengths 0 5 0 : 0", "lengths 99 5 0 : 1",
                "lengths 100 5 0 : OUTSIDE", "lengths MIN 5 0 : OUTSIDE", "lengths MAX 5 1 : OUTSIDE");
        EDGE.holds("lengths b (0 to 99)", "lengths 5 -1 0 : OUTSIDE", "lengths 5 0 0 : 0", "lengths 5 99 0 : 1",
                "lengths 5 100 0 : OUTSIDE", "lengths 5 MIN 0 : OUTSIDE", "lengths 5 MAX 1 : OUTSIDE");
        EDGE.holds("lengths: what = 0, 1; OUTSIDE", "lengths 5 5 -1 : OUTSIDE", "lengths 5 5 0 : 1",
                "lengths 5 5 1 : 1", "lengths 5 5 2 : OUTSIDE", "lengths 0 0 2 : OUTSIDE", "lengths 5 5 MIN : OUTSIDE",
                "lengths 5 5 MAX : OUTSIDE");
    }

    private static void lengths() {
        EDGE.holds("who can not (one is nothing already) has lost; NONE", "lengths 0 0 0 : 0", "lengths 0 0 1 : NONE",
                "lengths 0 1 0 : 0", "lengths 0 1 1 : NONE", "lengths 99 0 0 : 0", "lengths 99 0 1 : NONE");
        EDGE.holds("either from either, if they are the same", "lengths 1 1 0 : 1", "lengths 1 1 1 : 1",
                "lengths 99 99 0 : 1", "lengths 99 99 1 : 1", "lengths 50 50 1 : 1");
        EDGE.holds("as often as it goes in", "lengths 99 1 0 : 1", "lengths 99 1 1 : 99", "lengths 1 99 1 : 99",
                "lengths 2 1 1 : 2", "lengths 98 49 1 : 2", "lengths 3 98 0 : 1");
        EDGE.holds("1 or more times: once alone can be", "lengths 3 2 0 : 0", "lengths 3 2 1 : NONE",
                "lengths 99 98 0 : 0", "lengths 99 98 1 : NONE", "lengths 98 99 0 : 0", "lengths 8 5 0 : 0",
                "lengths 5 3 0 : 1", "lengths 5 3 1 : 1");
        EDGE.holds("the least", "lengths 5 2 0 : 1", "lengths 5 2 1 : 1", "lengths 2 5 1 : 1", "lengths 7 2 1 : 2",
                "lengths 99 2 1 : 48", "lengths 10 4 1 : 1", "lengths 13 5 1 : 1", "lengths 17 7 1 : 1",
                "lengths 19 7 1 : 2", "lengths 10 7 0 : 0", "lengths 10 7 1 : NONE");
    }

    private static void calmRefusals() {
        String lost = " : LOST OUTSIDE";
        EDGE.holds("each of n beats (0 to 15)", "calm -1 5 1 0 0" + lost, "calm 0 5 1 0 1 : 1",
                "calm 15 5 1 0 1 : 32768", "calm 16 5 1 0 0" + lost, "calm MIN 5 1 0 0" + lost,
                "calm MAX 5 1 1 1" + lost);
        EDGE.holds("t tenths (0 to 10)", "calm 3 -1 1 0 0" + lost, "calm 3 0 1 0 0 : 0", "calm 3 10 1 0 0 : 1",
                "calm 3 11 1 0 0" + lost, "calm 3 MIN 1 0 0" + lost, "calm 3 MAX 1 1 1" + lost);
        EDGE.holds("r (0 to 15)", "calm 3 5 -1 0 0" + lost, "calm 3 5 0 0 0 : 1", "calm 3 5 15 0 0 : 0",
                "calm 3 5 16 0 0" + lost, "calm 3 5 MIN 0 0" + lost, "calm 3 5 MAX 0 1" + lost);
        EDGE.holds("r is no matter, but as told", "calm 2 5 -1 1 0" + lost, "calm 2 5 0 1 0 : 1", "calm 2 5 15 1 0 : 1",
                "calm 2 5 16 1 0" + lost, "calm 2 5 16 1 1" + lost);
        EDGE.holds("calm: what = 0, 1; OUTSIDE", "calm 3 5 2 -1 0" + lost, "calm 3 5 2 0 0 : 3", "calm 3 5 2 1 0 : 11",
                "calm 3 5 2 2 0" + lost, "calm 3 5 2 MIN 0" + lost, "calm 3 5 2 MAX 0" + lost);
        EDGE.holds("by part: 0 the upper, 1 the lower number", "calm 3 5 2 0 -1" + lost, "calm 3 5 2 0 0 : 3",
                "calm 3 5 2 0 1 : 8", "calm 3 5 2 0 2" + lost, "calm 3 5 2 1 0 : 11", "calm 3 5 2 1 1 : 8",
                "calm 3 5 2 0 MIN" + lost, "calm 3 5 2 0 MAX" + lost);
    }

    private static void calm() {
        EDGE.holds("no beats", "calm 0 5 0 0 0 : 1", "calm 0 5 0 0 1 : 1", "calm 0 5 1 0 0 : 0", "calm 0 5 1 0 1 : 1",
                "calm 0 5 0 1 0 : 0", "calm 0 5 0 1 1 : 1", "calm 0 0 0 0 0 : 1", "calm 0 10 1 0 0 : 0");
        EDGE.holds("none calm one behind another is always so", "calm 15 0 0 0 0 : 1", "calm 15 3 0 0 0 : 1",
                "calm 15 3 0 0 1 : 1");
        EDGE.holds("0 tenths, 10 tenths", "calm 15 0 1 0 0 : 0", "calm 15 0 1 0 1 : 1", "calm 15 0 1 1 0 : 0",
                "calm 15 0 1 1 1 : 1", "calm 15 10 15 0 0 : 1", "calm 15 10 15 0 1 : 1", "calm 15 10 1 1 0 : 15",
                "calm 15 10 1 1 1 : 1", "calm 14 10 15 0 0 : 0");
        EDGE.holds("r just as many as n, one more", "calm 15 1 15 0 0 : 1", "calm 15 1 15 0 1 : 1000000000000000",
                "calm 14 9 15 0 0 : 0", "calm 14 9 15 0 1 : 1", "calm 1 2 1 0 0 : 1", "calm 1 2 1 0 1 : 5",
                "calm 1 2 2 0 0 : 0", "calm 15 9 14 0 0 : 251644717004571", "calm 15 9 14 0 1 : 1000000000000000");
        EDGE.holds("in lowest terms", "calm 15 5 15 0 0 : 1", "calm 15 5 15 0 1 : 32768", "calm 2 5 1 0 0 : 3",
                "calm 2 5 1 0 1 : 4", "calm 2 5 1 1 0 : 1", "calm 2 5 1 1 1 : 1", "calm 15 5 0 1 0 : 109381",
                "calm 15 5 0 1 1 : 32768");
        EDGE.holds("exactly, the greatest numbers", "calm 15 9 1 0 0 : 999999999999999",
                "calm 15 9 1 0 1 : 1000000000000000", "calm 15 9 0 1 0 : 10164707586990189",
                "calm 15 9 15 1 1 : 1000000000000000", "calm 15 1 3 1 0 : 928716311874741");
    }

    private static void yearRefusals() {
        EDGE.holds("a seed (0 to 9999)", "walker 4 5 0 : 1", "year -1 1 0 : OUTSIDE", "year 0 1 0 : 5",
                "year 9999 1 0 : 4", "year 10000 1 0 : OUTSIDE", "year MIN 1 0 : OUTSIDE", "year MAX 1 0 : OUTSIDE");
        EDGE.holds("m ACTS (1 to 99)", "year 39 0 2 : OUTSIDE", "year 4 1 2 : 1", "year 39 98 2 : 1",
                "year 39 99 2 : 0", "year 25 99 2 : 0", "year 39 100 2 : OUTSIDE", "year 39 -1 2 : OUTSIDE",
                "year 39 MIN 2 : OUTSIDE", "year 39 MAX 2 : OUTSIDE");
        EDGE.holds("year: what = 0, 1, 2; OUTSIDE", "walker 2 9 0 : 1", "year 2 1 -1 : OUTSIDE", "year 2 1 0 : 9",
                "year 2 1 1 : 1", "year 4 1 2 : 1", "year 2 1 3 : OUTSIDE", "year 2 1 MIN : OUTSIDE",
                "year 2 1 MAX : OUTSIDE");
    }

    private static void years() {
        // 65474 for seed 872 is the last that is not too much: C west; seed 873 comes to 65549, and so to 12: A east.
        EDGE.holds("left over by 65537", "walker 0 9 0 : 1", "walker 2 5 0 : 2", "year 872 1 0 : 13",
                "year 873 1 0 : 15");
        for (int who = 0; who < 6; who++) {
            int[] east = {873, 1759, 12, 882, 1752, 5};
            List<String> lines = new ArrayList<>();
            for (int seed = 0; seed < 6; seed++) {
                lines.add("year " + east[seed] + " 1 0 : " + (seed == who ? 10 : 9));
            }
            EDGE.holds("of WALKER x left over by 6", Edge.join(new String[] {"walker " + who + " 9 0 : 1"},
                    lines.toArray(new String[0])));
        }
        EDGE.holds("by x by 6 (cut) left over by 8: 0, 1 he goes west, 2, 3 east, 4 he waits, 5 a stone, 6 WIND",
                "walker 2 9 0 : 1", "year 8 1 0 : 8", "year 10 1 0 : 8", "year 12 1 0 : 10", "year 14 1 0 : 10",
                "year 0 1 0 : 9", "year 2 1 0 : 9", "year 4 1 0 : 9", "year 6 1 0 : 9", "year 0 1 1 : 0",
                "year 2 1 1 : 1", "year 4 1 1 : 0", "year 6 1 1 : 0", "year 2 1 2 : 0", "year 4 1 2 : 1",
                "year 6 1 2 : 0", "told 10 : OUTSIDE", "told 30 : 9");
        EDGE.holds("7 a beat: then its stone can be", "walker 0 5 0 : 1", "days A*A> : 2", "year 15 1 1 : 1",
                "year 15 2 1 : 0", "pad A* : 2", "done : NO");
        EDGE.holds("7 a beat: then its stone can not be", "walker 0 5 0 : 1", "days A* : 1", "year 15 2 1 : 1");
        EDGE.holds("4 he waits, and so comes on", "gap 1 : 3", "walker 2 4 2 : 1", "days C> : 1", "year 496 1 0 : 5",
                "year 496 2 0 : 6");
        EDGE.holds("5 a stone, and it is his again", "walker 2 4 0 : 1", "year 498 1 1 : 1", "year 498 2 1 : 0");
        EDGE.holds("6 WIND, and no stone can be", "walker 2 4 0 : 1", "year 148 1 2 : 1", "year 148 2 1 : 0");
        EDGE.holds("6 WIND, and it ends", "year 36 1 2 : 1", "year 36 2 2 : 0");
    }

    private static void yearsFromAllAsItIs() {
        EDGE.holds("each if that can be: the PATH ends", "walker 2 0 0 : 1", "year 8 1 0 : 0", "year 12 1 0 : 1",
                "walker 2 19 0 : 1", "year 12 1 0 : 19", "year 8 1 0 : 18");
        EDGE.holds("each if that can be: GAP", "walker 2 9 1 : 1", "gap 0 : 3", "year 8 1 0 : 9", "gap 1 : 0",
                "year 8 1 0 : 8");
        EDGE.holds("each if that can be: an ARCH", "walker 2 9 0 : 1", "walker 3 8 0 : 2", "year 8 1 0 : 16",
                "arch 8 true : {8}", "year 8 1 0 : 17", "year 12 1 0 : 18");
        EDGE.holds("each if that can be: a stone", "walker 2 9 0 : 1", "days C*. : 2", "year 2 1 1 : 1", "days C> : 1",
                "year 2 1 1 : 0");
        EDGE.holds("each if that can be: nobody is there", "year 8 1 0 : 0", "year 2 1 1 : 0", "year 4 1 2 : 1",
                "walker 1 3 0 : 1", "year 8 1 0 : 3", "year 2 1 1 : 0");
        EDGE.holds("CELLS of all WALKERS added", "walker 0 19 0 : 1", "walker 1 19 0 : 2", "walker 2 19 0 : 3",
                "walker 3 19 0 : 4", "walker 4 19 0 : 5", "walker 5 19 0 : 6", "year 0 1 0 : 114", "leave 5 : 5",
                "year 0 1 0 : 95");
        EDGE.holds("how many have PARTED, those from ahead of it too", "walker 0 4 0 : 1", "walker 2 4 0 : 2",
                "days A* : 1", "year 0 1 1 : 1", "year 2 1 1 : 2");
        EDGE.holds("WIND, from WIND", "days ~ : 1", "year 0 1 2 : 1", "year 4 1 2 : 0");
        EDGE.holds("Nothing is DONE in fact; the PAD is no matter", "walker 2 9 0 : 1", "pad C<C< : 4",
                "year 8 1 0 : 8", "year 4321 99 0", "year 4321 99 1", "year 4321 99 2", "told 30 : 9", "told 0 : 4",
                "told 5 : 0", "done : 2", "told 30 : 7");
    }

    private static void images() {
        EDGE.holds("an IMAGE (0, 1): image", "image -1 : OUTSIDE", "image 0 : 1", "image 1 : 1", "image 2 : OUTSIDE",
                "image MIN : OUTSIDE", "image MAX : OUTSIDE");
        EDGE.holds("an IMAGE (0, 1): restore", "restore -1 : OUTSIDE", "restore 2 : OUTSIDE", "restore MIN : OUTSIDE",
                "restore MAX : OUTSIDE", "image 0 : 1", "image 1 : 1", "restore -1 : OUTSIDE", "restore 2 : OUTSIDE",
                "restore 0 : 1", "restore 1 : 1");
        EDGE.holds("STATE: it was not: 0 was, 1 was not", "walker 0 4 0 : 1", "image 0 : 1", "restore 1 : STATE",
                "restore 0 : 1");
        EDGE.holds("STATE: it was not: 1 was, 0 was not", "walker 0 4 0 : 1", "image 1 : 1", "restore 0 : STATE",
                "restore 1 : 1");
        EDGE.holds("an IMAGE of a new object empties all but the PAD", "image 0 : 1", "walker 0 4 0 : 1",
                "arch 3 true : {3}", "gap 9 : 3", "seen 1 1 : 1", "days A*.~ : 3", "pad A= : 2", "restore 0 : 1",
                "told 0 : 2", "told 1 : {}", "told 2 : {}", "told 3 : 3", "told 4 : 0", "told 5 : 0", "told 6 : 0",
                "then 0 : NO", "judge 1 : 1");
        EDGE.holds("All but the PAD is kept", "pad A= : 2", "image 0 : 1", "wipe : 2", "restore 0 : 1", "told 0 : 0",
                "pad ..! : 3", "restore 0 : 1", "told 0 : 3", "fault : 2");
        EDGE.holds("SIGHTS are kept, all eight", Edge.join(eightSights(), "image 1 : 1", "forget : 8", "seen 1 1 : 1",
                "restore 1 : 1", "told 6 : 8", "seen 0 7 : FULL", "fits -1 : 70", "fits 0 : 9", "fits 1 : 27"));
        EDGE.holds("It is as it was when it was kept", "gap 7 : 3", "arch 0 true : {0}", "arch 19 true : {0 19}",
                "walker 0 9 5 : 1", "walker 5 19 2 : 2", "days A<A<A=A<A<F*.~. : 9", "image 0 : 1", "gap 0 : 7",
                "arch 0 false : {19}", "leave 0 : 1", "walker 5 3 0 : 1", "days ~. : 2", "restore 0 : 1",
                "told 1 : {0 5}", "told 2 : {0 19}", "told 3 : 7", "told 4 : 1", "told 5 : 2", "told 10 : 5",
                "told 11 : 5", "told 12 : NONE", "told 14 : 5", "told 60 : 19", "told 61 : 2", "told 62 : 17",
                "told 63 : 1", "told 69 : 0");
        EDGE.holds("kept anew, it is as it was then", "walker 0 4 0 : 1", "image 0 : 1", "walker 0 5 0 : 1",
                "image 0 : 1", "walker 0 6 0 : 1", "restore 0 : 1", "told 10 : 5");
        EDGE.holds("an IMAGE can be restored again, and the other one is as it was", "walker 0 4 0 : 1", "image 0 : 1",
                "walker 0 5 0 : 1", "image 1 : 1", "restore 0 : 1", "days A>A> : 2", "restore 0 : 1", "told 10 : 4",
                "restore 1 : 1", "told 10 : 5", "restore 0 : 1", "told 10 : 4");
    }

    private static void told() {
        EDGE.holds("told: OUTSIDE: below 0, and 7 to 9", "walker 0 4 0 : 1", "told -1 : OUTSIDE", "told 0 : 0",
                "told 6 : 0", "told 7 : OUTSIDE", "told 8 : OUTSIDE", "told 9 : OUTSIDE", "told 10 : 4",
                "told -10 : OUTSIDE", "told -6 : OUTSIDE", "told MIN : OUTSIDE", "told MAX : OUTSIDE");
        for (int who = 0; who < 6; who++) {
            int from = 10 * (1 + who);
            List<String> lines = new ArrayList<>();
            lines.add("walker " + who + " 4 2 : 1");
            for (int what = 7; what <= 80; what++) {
                if (what < from || what > from + 9) {
                    lines.add("told " + what + " : OUTSIDE");
                }
            }
            int[] want = {4, 2, 4, 0, 4, 4, 4, 4, 4, -6};
            for (int k = 0; k < 10; k++) {
                lines.add("told " + (from + k) + " : " + want[k]);
            }
            EDGE.holds("told: a WALKER who is there: " + who, lines.toArray(new String[0]));
        }
        EDGE.holds("told: all six: 69 is the last", "walker 0 1 0 : 1", "walker 1 1 0 : 2", "walker 2 1 0 : 3",
                "walker 3 1 0 : 4", "walker 4 1 0 : 5", "walker 5 1 0 : 6", "told 69 : NONE", "told 70 : OUTSIDE",
                "told 79 : OUTSIDE", "told 100 : OUTSIDE", "told 2147483640 : OUTSIDE");
        EDGE.holds("9 which way a PARTED one goes (1 EAST, 0 WEST; NONE: it has not)", "walker 0 19 0 : 1",
                "told 19 : NONE", "days A* : 1", "told 19 : 1", "days . : 1", "told 19 : 0", "days A<A* : 2",
                "told 19 : NONE", "told 10 : 18");
        EDGE.holds("2 his OTHER's CELL (NONE)", "walker 0 19 0 : 1", "told 12 : 19", "days ~ : 1", "told 12 : NONE",
                "days ~A*~ : 3", "told 12 : 19");
    }
}
