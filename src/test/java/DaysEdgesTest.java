import java.util.ArrayList;
import java.util.List;

/** The edges of days: the reasons of part 1, stones, wind and beats, and promises 9 to 13, sentence by sentence. */
public final class DaysEdgesTest {
    private static final Edge EDGE = new Edge("DaysEdgesTest");

    public static void main(String[] args) {
        nobody();
        pathEnds();
        gapIsKept();
        archIsTaken();
        stones();
        beats();
        ends();
        leastReason();
        winds();
        judging();
        doing();
        behind();
        then();
        standing();
        EDGE.end();
    }

    private static String[] lines(List<String> lines) {
        return lines.toArray(new String[0]);
    }

    /** Days that are written, judged and looked at: the act that can not be, and why. */
    private static String[] barred(String days, int act, int why) {
        return new String[] {"pad " + days, "fault : NONE", "judge 0 : " + act, "judge 1 : " + why, "then 0 : NO",
            "done : NO", "told 0 : " + days.length()};
    }

    private static String[] canBe(String days, int acts) {
        return new String[] {"pad " + days, "fault : NONE", "judge 0 : NONE", "judge 1 : NONE", "done : " + acts,
            "told 0 : 0"};
    }

    private static void bars(String sentence, String[] beginning, String days, int act, int why) {
        EDGE.holds(sentence, Edge.join(beginning, barred(days, act, why)));
    }

    private static void lets(String sentence, String[] beginning, String days, int acts) {
        EDGE.holds(sentence, Edge.join(beginning, canBe(days, acts)));
    }

    private static void nobody() {
        String one = "1 there is no such WALKER";
        for (String deed : new String[] {"<", ">", "=", "*"}) {
            bars(one + ": a new object", new String[0], "A" + deed, 0, 1);
            bars(one + ": a new object", new String[0], "F" + deed, 0, 1);
            bars(one + ": another is there", new String[] {"walker 1 4 1 : 1"}, "B=A" + deed, 1, 1);
            bars(one + ": he has left", new String[] {"walker 0 4 1 : 1", "leave 0 : 0"}, "A" + deed, 0, 1);
            lets(one + ": he is there", new String[] {"walker 0 4 1 : 1", "walker 5 4 1 : 2"},
                    "A" + deed + "F" + deed, 2);
        }
        lets("~ and . need no WALKER", new String[0], "~.~.", 4);
    }

    private static void pathEnds() {
        String two = "2 the PATH ends (<, >)";
        bars(two, new String[] {"walker 0 0 0 : 1"}, "A<", 0, 2);
        bars(two, new String[] {"walker 0 19 0 : 1"}, "A>", 0, 2);
        bars(two, new String[] {"walker 0 1 0 : 1"}, "A<A<", 1, 2);
        bars(two, new String[] {"walker 0 18 0 : 1"}, "A>A>", 1, 2);
        lets(two + ": the last step", new String[] {"walker 0 1 0 : 1"}, "A<A=A>", 3);
        lets(two + ": the last step", new String[] {"walker 0 18 0 : 1"}, "A>A=A<", 3);
        lets(two + ": he waits, a stone", new String[] {"walker 0 0 0 : 1"}, "A=A*", 2);
        lets(two + ": he waits, a stone", new String[] {"walker 0 19 0 : 1"}, "A=A*", 2);
        bars(two + ": in WIND too", new String[] {"walker 0 0 3 : 1"}, "~A<", 1, 2);
        bars(two + ": his OTHER having PARTED too", new String[] {"walker 0 19 3 : 1"}, "A*A>", 1, 2);
    }

    private static void gapIsKept() {
        String three = "3 more than GAP CELLS off behind the step";
        for (int gap = 0; gap <= 4; gap++) {
            String[] late = {"gap " + gap + " : 3", "walker 0 9 5 : 1"};
            lets(three + ": just GAP, to the east", late, "A>".repeat(gap), gap);
            bars(three + ": one more, to the east", late, "A>".repeat(gap + 1), gap, 3);
            lets(three + ": just GAP, to the west", late, "A<".repeat(gap), gap);
            bars(three + ": one more, to the west", late, "A<".repeat(gap + 1), gap, 3);
        }
        for (int late = 1; late <= 5; late++) {
            // Behind each step his other has come on a cell too: it is LATE cells off, never more.
            lets(three + ": LATE as much as GAP", new String[] {"gap " + late + " : 3", "walker 0 4 " + late + " : 1"},
                    "A>".repeat(15), 15);
            bars(three + ": LATE more than GAP", new String[] {"gap " + (late - 1) + " : 3",
                "walker 0 4 " + late + " : 1"}, "A>".repeat(late), late - 1, 3);
        }
        lets(three + ": LATE 0 is never off", new String[] {"gap 0 : 3", "walker 0 0 0 : 1"}, "A>".repeat(19), 19);
        String[] far = {"walker 0 5 4 : 1", "days A>A>A> : 3", "gap 0 : 3"};
        lets(three + ": waiting is no step", far, "A=A=A=A=", 4);
        bars(three + ": a GAP that has become less", far, "A<", 0, 3);
        bars(three + ": waited for, it is not off", far, "A=A=A=A=A>", 4, 3);
        String[] nearer = {"walker 0 5 4 : 1", "days A>A>A> : 3", "gap 1 : 3"};
        lets(three + ": waited for, it is near enough", nearer, "A=A=A=A>", 4);
        bars(three + ": waited for too short", nearer, "A=A=A>", 2, 3);
        // Which is somewhere, and has not PARTED.
        String[] held = {"gap 0 : 3", "walker 0 5 5 : 1"};
        bars(three, held, "A>", 0, 3);
        lets(three + ": it is nowhere", held, "~A>A>A>", 4);
        bars(three + ": it is somewhere again", held, "~A>~A>", 3, 3);
        lets(three + ": it has PARTED", held, "A*A>A>A>", 4);
        bars(three + ": it is his again", held, "A*A*A>", 2, 3);
    }

    private static void archIsTaken() {
        String four = "4 the CELL is an ARCH, and another WALKER, or another one's OTHER, is in it now";
        String[] two = {"gap 19 : 3", "arch 8 true : {8}", "walker 0 7 5 : 1", "walker 1 8 5 : 2"};
        bars(four + ": to the east", two, "A>", 0, 4);
        bars(four + ": to the west", new String[] {"arch 8 true : {8}", "walker 0 9 5 : 1", "walker 1 8 5 : 2"},
                "A<", 0, 4);
        lets(four + ": it is none", new String[] {"arch 9 true : {9}", "arch 7 true : {7 9}", "walker 0 7 5 : 1",
            "walker 1 8 5 : 2"}, "A>", 1);
        lets(four + ": it is none any more", Edge.join(two, "arch 8 false : {}"), "A>", 1);
        bars(four + ": his OTHER alone", two, "B>A>", 1, 4);
        bars(four + ": his OTHER to the last", two, "B>B>B>B>A>", 4, 4);
        lets(four + ": his OTHER has gone now", two, "B>B>B>B>B>B>A>", 7);
        bars(four + ": it goes only with his sixth act", two, "B>B>B>B>B>A>", 5, 4);
        lets(four + ": in WIND his OTHER is nowhere", two, "~B>A>", 3);
        bars(four + ": in WIND he is somewhere", two, "~A>", 1, 4);
        bars(four + ": an OTHER that has PARTED", two, "B*B>A>", 2, 4);
        bars(four + ": in WIND too", two, "B*B>~A>", 3, 4);
        lets(four + ": it has gone on", two, "B*B>.A>", 4);
        lets(four + ": he has left", Edge.join(two, "leave 1 : 1"), "A>", 1);
        // His own OTHER does not matter.
        String[] alone = {"arch 8 true : {8}", "walker 0 8 1 : 1"};
        lets(four + ": his own OTHER does not matter", alone, "A>A<A>", 3);
        lets(four + ": his own, having PARTED, does not matter", alone, "A*A>A<", 3);
        lets(four + ": his own, in another's stead", new String[] {"arch 8 true : {8}", "walker 0 7 1 : 1"}, "A>A>", 2);
        // <, > alone; and it is the cell that he comes to.
        String[] within = {"arch 8 true : {8}", "walker 0 8 0 : 1", "walker 1 8 0 : 2"};
        lets(four + ": he waits in it, a stone in it, he goes out of it", within, "A=A*A*A>", 4);
        bars(four + ": he comes back", within, "A>A<", 1, 4);
        lets(four + ": the first and the last CELL", new String[] {"arch 0 true : {0}", "arch 19 true : {0 19}",
            "walker 0 1 0 : 1", "walker 1 18 0 : 2"}, "A<B>", 2);
        bars(four + ": the first CELL", new String[] {"arch 0 true : {0}", "walker 0 1 0 : 1", "walker 5 0 0 : 2"},
                "A<", 0, 4);
        bars(four + ": the last CELL", new String[] {"arch 19 true : {19}", "walker 0 19 0 : 1", "walker 5 18 0 : 2"},
                "F>", 0, 4);
    }

    private static void stones() {
        String parts = "a stone: his OTHER PARTS from him, where it is, and goes EAST";
        EDGE.holds(parts, "walker 0 9 2 : 1", "days A<A<A* : 3", "told 10 : 7", "told 12 : 9", "told 13 : 1",
                "told 19 : 1", "days . : 1", "told 12 : 10");
        EDGE.holds(parts + ": LATE 0", "walker 0 9 0 : 1", "days A<A* : 2", "told 12 : 8", "told 19 : 1");
        EDGE.holds(parts + ": at the east end too", "walker 0 19 0 : 1", "days A* : 1", "told 12 : 19", "told 19 : 1");
        EDGE.holds(parts + ": at the west end too", "walker 0 0 0 : 1", "days A* : 1", "told 12 : 0", "told 19 : 1");
        String again = "having PARTED, and being in his CELL, it is his again, as if he had just been told there";
        EDGE.holds(again, "walker 0 4 5 : 1", "days A>A>A>A* : 4", "days A=A=... : 5", "told 12 : 7", "days A* : 1",
                "told 10 : 7", "told 11 : 5", "told 12 : 7", "told 13 : 0", "told 14 : 7", "told 15 : 7",
                "told 16 : 7", "told 17 : 7", "told 18 : 7", "told 19 : NONE", "days . : 1", "told 12 : 7",
                "again 0 0 : STATE");
        EDGE.holds(again + ": and PARTS anew, going EAST", "walker 0 18 0 : 1", "days A*.. : 3", "told 12 : 18",
                "told 19 : 0", "days A*A* : 2", "told 12 : 18", "told 19 : 1");
        String five = "5 his OTHER is nowhere, or has PARTED and is in another CELL (*)";
        String[] one = {"walker 0 9 2 : 1"};
        bars(five + ": nowhere", one, "~A*", 1, 5);
        lets(five + ": somewhere again", one, "~~A*", 3);
        bars(five + ": a CELL to the east", one, "A*.A*", 2, 5);
        bars(five + ": a CELL to the west", one, "A*A>A*", 2, 5);
        lets(five + ": in his CELL", one, "A*A>.A*", 4);
        lets(five + ": in his CELL, in WIND", one, "A*~A*", 3);
        bars(five + ": his again in WIND, and so nowhere", one, "A*~A*A*", 3, 5);
        lets(five + ": not PARTED, in another CELL", one, "A>A>A*", 3);
    }

    private static void beats() {
        String six = "6 it is beat 999 (.)";
        lets(six + ": sixty at once", new String[0], ".".repeat(60), 60);
        // 512 calls come as far as beat 480, and some: the last beat itself is looked at in DaysTest.
        List<String> far = new ArrayList<>();
        for (int i = 1; i <= 8; i++) {
            far.add("days " + ".".repeat(60) + " : 60");
        }
        far.add("days . : 1");
        EDGE.holds(six, lines(far));
        EDGE.holds(". (a beat: each OTHER that has PARTED goes a CELL on its way): no other one does",
                "walker 0 4 1 : 1", "walker 1 4 1 : 2", "walker 2 4 1 : 3", "days A*C>C*. : 4", "told 12 : 5",
                "told 22 : 4", "told 32 : 5", "told 10 : 4", "told 30 : 5", "told 5 : 1");
        EDGE.holds(". in WIND", "walker 0 4 0 : 1", "days A*~. : 3", "told 12 : 5", "told 5 : 1");
    }

    /** Where an other turns. */
    private static void ends() {
        String turns = "at the end of the PATH it turns, and goes a CELL the other way";
        EDGE.holds(turns + ": east", "walker 0 17 0 : 1", "days A*. : 2", "told 12 : 18", "told 19 : 1", "days . : 1",
                "told 12 : 19", "told 19 : 1", "days . : 1", "told 12 : 18", "told 19 : 0", "days . : 1",
                "told 12 : 17", "told 19 : 0");
        EDGE.holds(turns + ": it PARTS at the very end", "walker 0 19 0 : 1", "days A* : 1", "told 19 : 1",
                "days . : 1", "told 12 : 18", "told 19 : 0");
        EDGE.holds(turns + ": west", "walker 0 19 0 : 1", "days A*" + ".".repeat(18) + " : 19", "told 12 : 1",
                "told 19 : 0", "days . : 1", "told 12 : 0", "told 19 : 0", "days . : 1", "told 12 : 1", "told 19 : 1",
                "days . : 1", "told 12 : 2", "told 19 : 1");
        EDGE.holds(turns + ": PARTED at the west end it goes EAST at once", "walker 0 0 0 : 1", "days A*. : 2",
                "told 12 : 1", "told 19 : 1");
        EDGE.holds(turns + ": there and back takes 38 beats", "walker 0 7 0 : 1", "days A*" + ".".repeat(37) + " : 38",
                "told 12 : 6", "told 19 : 1", "days . : 1", "told 12 : 7", "told 19 : 1", "days A* : 1", "told 13 : 0");
        EDGE.holds(turns + ": BEHIND", "walker 0 19 0 : 1", "pad A* : 2", "behind 0 1 : 19", "say '. : 3",
                "behind 0 1 : 18");
    }

    private static void leastReason() {
        String least = "An ACT can not be for the least of these reasons";
        bars(least + ": 3 ahead of 4", new String[] {"gap 0 : 3", "arch 5 true : {5}", "walker 0 4 1 : 1",
            "walker 1 5 0 : 2"}, "A>", 0, 3);
        bars(least + ": 4, when GAP is kept", new String[] {"gap 1 : 3", "arch 5 true : {5}", "walker 0 4 1 : 1",
            "walker 1 5 0 : 2"}, "A>", 0, 4);
        bars(least + ": 2 ahead of 3", new String[] {"gap 0 : 3", "walker 0 0 5 : 1"}, "A<", 0, 2);
        bars(least + ": 2 ahead of 3, east", new String[] {"gap 0 : 3", "walker 0 19 5 : 1"}, "A>", 0, 2);
        bars(least + ": 1 ahead of 5", new String[] {"walker 0 4 0 : 1"}, "~B*", 1, 1);
        bars(least + ": of the first ACT, not of all", new String[] {"walker 0 4 0 : 1"}, "~A*B<", 1, 5);
    }

    private static void winds() {
        String nowhere = "While there is WIND an OTHER that has not PARTED is nowhere";
        EDGE.holds(nowhere, "walker 0 4 0 : 1", "walker 1 5 3 : 2", "days B*~ : 2", "told 4 : 1", "told 12 : NONE",
                "told 22 : 5", "standing 4 1 : {}", "standing 5 1 : {1}", "standing 4 0 : {0}", "behind 0 1 : NONE",
                "behind 1 1 : 5", "told 13 : 0", "told 19 : NONE", "days ~ : 1", "told 4 : 0", "told 12 : 4");
        String anew = "~ (WIND begins, or ends: then each OTHER that has not PARTED is as if he had just been told)";
        for (int late = 0; late <= 5; late++) {
            EDGE.holds(anew + ": LATE " + late, "gap 19 : 3", "walker 0 4 " + late + " : 1", "days A>A>A>A>A> : 5",
                    "days ~ : 1", "told 10 : 9", "told 11 : " + late, "told 12 : NONE", "told 14 : 9", "told 15 : 9",
                    "told 16 : 9", "told 17 : 9", "told 18 : 9", "days A<A< : 2", "told 14 : 8", "told 15 : 9",
                    "days ~ : 1", "told 10 : 7", "told 12 : 7", "told 14 : 7", "told 15 : 7", "told 16 : 7",
                    "told 17 : 7", "told 18 : 7");
        }
        EDGE.holds(anew + ": not one that has PARTED", "walker 0 4 1 : 1", "days A>A>A*. : 4", "told 12 : 6",
                "days ~ : 1", "told 12 : 6", "told 13 : 1", "told 14 : 5", "told 15 : 4", "days ~ : 1", "told 12 : 6",
                "told 13 : 1", "told 19 : 1", "told 14 : 5", "told 15 : 4");
    }

    private static void judging() {
        String[] two = {"walker 0 0 0 : 1", "walker 1 19 0 : 2"};
        EDGE.holds("judge: what = 0, 1; OUTSIDE", "judge -1 : OUTSIDE", "judge 0 : NONE", "judge 1 : NONE",
                "judge 2 : OUTSIDE", "judge MIN : OUTSIDE", "judge MAX : OUTSIDE");
        EDGE.holds("judge: NO: there is a FAULT", "walker 0 0 0 : 1", "pad A<A : 3", "judge 0 : NO", "judge 1 : NO",
                "pad ! : 1", "judge 0 : NO", "judge 1 : NO");
        EDGE.holds("judge: OUTSIDE ahead of NO", "pad A : 1", "judge -1 : OUTSIDE", "judge 2 : OUTSIDE",
                "judge 0 : NO");
        bars("the first ACT (from 0 on) that can not be: the very first", two, "A<B>", 0, 2);
        bars("the first ACT that can not be: the last one", two, "A>~.B<B>B>", 5, 2);
        bars("the first ACT that can not be: the last one of a full PAD", two, ".".repeat(58) + "A<", 58, 2);
        bars("the first ACT that can not be: the first one of a full PAD", two, "A<" + ".".repeat(58), 0, 2);
        bars("ACTS are counted, not signs", two, "A=.~A=A<", 4, 2);
        lets("judge: NONE: all can be", two, "A>B<", 2);
    }

    private static void doing() {
        EDGE.holds("DAYS on the PAD are DONE (it is empty then): ACTS: nothing", "done : 0", "told 0 : 0",
                "told 5 : 0");
        EDGE.holds("DAYS are DONE: ACTS, not signs", "walker 0 4 0 : 1", "pad A>.A>~ : 6", "done : 4", "told 0 : 0",
                "done : 0", "told 10 : 6", "told 5 : 1", "told 4 : 1");
        EDGE.holds("DAYS are DONE: a full PAD", "walker 0 4 0 : 1", "days " + "A>A<".repeat(15) + " : 30",
                "told 10 : 4");
        EDGE.holds("done: NO: there is a FAULT", "walker 0 4 0 : 1", "pad A>A : 3", "done : NO", "told 10 : 4",
                "told 0 : 3", "say '> : 4", "done : 2", "told 10 : 6");
        EDGE.holds("done: NO: an ACT that can not be, and nothing ahead of it is DONE", "walker 0 18 0 : 1",
                "pad .~A>A> : 6", "done : NO", "told 10 : 18", "told 5 : 0", "told 4 : 0", "told 0 : 6");
    }

    private static void behind() {
        String[] two = {"walker 0 4 1 : 1", "walker 5 9 0 : 2", "pad A>A>F* : 6"};
        EDGE.holds("behind: his CELL (what = 0), his OTHER's (1; NONE), PARTED (2)", Edge.join(two, "behind 0 0 : 6",
                "behind 0 1 : 5", "behind 0 2 : 0", "behind 5 0 : 9", "behind 5 1 : 9", "behind 5 2 : 1", "say '~ : 7",
                "behind 0 1 : NONE", "behind 5 1 : 9", "told 10 : 4", "told 63 : 0"));
        EDGE.holdsEach("behind: UNKNOWN", two, "behind -1 0 : UNKNOWN", "behind 1 0 : UNKNOWN", "behind 4 2 : UNKNOWN",
                "behind 6 0 : UNKNOWN", "behind MIN 0 : UNKNOWN", "behind MAX 0 : UNKNOWN");
        EDGE.holdsEach("behind: OUTSIDE", two, "behind 0 -1 : OUTSIDE", "behind 0 3 : OUTSIDE",
                "behind 5 MIN : OUTSIDE", "behind 5 MAX : OUTSIDE");
        EDGE.holdsEach("behind: UNKNOWN ahead of OUTSIDE", two, "behind -1 -1 : UNKNOWN", "behind 6 3 : UNKNOWN",
                "behind 1 3 : UNKNOWN");
        for (String days : new String[] {"A", "A>!", "A<A<A<A<A<", "B=", "~A*"}) {
            String[] bad = {"walker 0 4 1 : 1", "pad " + days};
            EDGE.holdsEach("behind: NO, as of done(): " + days, bad, "behind 0 0 : NO", "behind 0 1 : NO",
                    "behind 0 2 : NO");
            EDGE.holdsEach("behind: UNKNOWN ahead of NO", bad, "behind 1 0 : UNKNOWN", "behind -1 0 : UNKNOWN",
                    "behind 6 3 : UNKNOWN");
            EDGE.holdsEach("behind: OUTSIDE ahead of NO", bad, "behind 0 3 : OUTSIDE", "behind 0 -1 : OUTSIDE");
        }
        EDGE.holds("behind an empty PAD all is as it is", "walker 0 4 1 : 1", "days A> : 1", "behind 0 0 : 5",
                "behind 0 1 : 4", "behind 0 2 : 0");
    }

    private static void then() {
        EDGE.holds("then: what = 0 to 4; OUTSIDE", "then -1 : OUTSIDE", "then 0 : 0", "then 1 : 0", "then 2 : 0",
                "then 3 : NONE", "then 4 : NONE", "then 5 : OUTSIDE", "then MIN : OUTSIDE", "then MAX : OUTSIDE");
        for (String days : new String[] {"A", "A>!", "A<A<A<A<A<", "B=", "~A*"}) {
            String[] bad = {"walker 0 4 1 : 1", "pad " + days};
            EDGE.holdsEach("then: NO, likewise: " + days, bad, "then 0 : NO", "then 1 : NO", "then 2 : NO",
                    "then 3 : NO", "then 4 : NO");
            EDGE.holdsEach("then: OUTSIDE ahead of NO", bad, "then -1 : OUTSIDE", "then 5 : OUTSIDE");
        }
        String first = "the first ACT by which one did, who (NONE)";
        EDGE.holds(first + ": the very first", "walker 0 4 1 : 1", "pad A* : 2", "then 2 : 1", "then 3 : 0",
                "then 4 : 0");
        EDGE.holds(first + ": F, at last", "walker 5 4 1 : 1", "pad .~~F=F* : 7", "then 2 : 1", "then 3 : 4",
                "then 4 : 5");
        EDGE.holds(first + ": of two", "walker 0 4 1 : 1", "walker 5 4 1 : 2", "pad F=F*A* : 6", "then 2 : 2",
                "then 3 : 1", "then 4 : 5");
        EDGE.holds(first + ": it is his again then", "walker 0 4 1 : 1", "pad .A*A* : 5", "then 2 : 0", "then 3 : 1",
                "then 4 : 0");
        EDGE.holds(first + ": a stone by which it is his again is none", "walker 0 4 1 : 1", "walker 1 4 1 : 2",
                "days A* : 1", "then 2 : 1", "then 3 : NONE", "then 4 : NONE", "pad A* : 2", "then 2 : 0",
                "then 3 : NONE", "then 4 : NONE", "pad A*B* : 4", "then 2 : 1", "then 3 : 1", "then 4 : 1");
        EDGE.holds("how many have PARTED: all six", "walker 0 4 1 : 1", "walker 1 4 1 : 2", "walker 2 4 1 : 3",
                "walker 3 4 1 : 4", "walker 4 4 1 : 5", "walker 5 4 1 : 6", "pad F*E*D*C*B*A* : 12", "then 2 : 6",
                "then 3 : 0", "then 4 : 5", "done : 6", "then 2 : 6", "standing 4 1 : {0 1 2 3 4 5}");
        EDGE.holds("BEHIND: WIND (1, 0), the beat", "pad ~.. : 3", "then 0 : 1", "then 1 : 2", "say '~ : 4",
                "then 0 : 0", "done : 4", "then 1 : 2", "pad . : 1", "then 1 : 3");
    }

    private static void standing() {
        String[] two = {"walker 0 0 1 : 1", "walker 5 19 1 : 2"};
        EDGE.holds("CELLS 0 to 19: standing", Edge.join(two, "standing -1 0 : UNKNOWN", "standing 0 0 : {0}",
                "standing 0 1 : {0}", "standing 19 0 : {5}", "standing 19 1 : {5}", "standing 20 0 : UNKNOWN",
                "standing -6 1 : UNKNOWN", "standing MIN 0 : UNKNOWN", "standing MAX 1 : UNKNOWN"));
        EDGE.holds("standing: what = 0, 1; OUTSIDE", Edge.join(two, "standing 0 -1 : OUTSIDE", "standing 0 2 : OUTSIDE",
                "standing 19 MIN : OUTSIDE", "standing 19 MAX : OUTSIDE"));
        EDGE.holds("standing: UNKNOWN ahead of OUTSIDE", Edge.join(two, "standing -1 -1 : UNKNOWN",
                "standing 20 2 : UNKNOWN"));
        EDGE.holds("IN a CELL: as it is now, not BEHIND the PAD", Edge.join(two, "pad A>F* : 4", "standing 0 0 : {0}",
                "standing 1 0 : {}", "done : 2", "standing 0 0 : {}", "standing 0 1 : {0}", "standing 1 0 : {0}",
                "standing 1 1 : {}"));
    }
}
