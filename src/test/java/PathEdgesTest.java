import java.util.ArrayList;
import java.util.List;

/** The edges that the document names in part 1 and in promises 1 to 8, sentence by sentence. */
public final class PathEdgesTest {
    private static final Edge EDGE = new Edge("PathEdgesTest");

    public static void main(String[] args) {
        newObject();
        arches();
        gaps();
        walkers();
        leaving();
        saying();
        wiping();
        faults();
        everySign();
        lates();
        whatCountsAsHisAct();
        EDGE.end();
    }

    private static void newObject() {
        EDGE.holds("some are ARCHES (none at first)", "told 2 : {}", "arch 7 false : {}");
        EDGE.holds("GAP is 0 to 19 (3 at first)", "told 3 : 3", "gap 3 : 3", "gap 5 : 3");
        EDGE.holds("WALKERS 0 to 5 (A to F), none of whom are there at first", "told 1 : {}", "leave 0 : UNKNOWN",
                "leave 5 : UNKNOWN", "told 10 : OUTSIDE", "told 60 : OUTSIDE", "walker 2 2 2 : 1");
        EDGE.holds("or it has PARTED from him (none at first)", "then 2 : 0", "walker 0 3 1 : 1", "told 13 : 0",
                "told 19 : NONE", "behind 0 2 : 0", "again 0 0 : STATE", "then 2 : 0");
        EDGE.holds("There is WIND, or not (not, at first)", "told 4 : 0", "then 0 : 0", "year 0 1 2 : 0");
        EDGE.holds("It is beat 0 at first", "told 5 : 0", "then 1 : 0", "days . : 1", "told 5 : 1");
        EDGE.holds("the PAD is empty at first", "told 0 : 0", "fault : NONE", "wipe : 0", "done : 0", "say '. : 1");
        EDGE.holds("there are no SIGHTS at first", "told 6 : 0", "fits -1 : 1400", "forget : 0", "seen 0 0 : 1");
        EDGE.holds("no IMAGE is kept at first", "restore 0 : STATE", "restore 1 : STATE");
        List<String> lines = new ArrayList<>();
        for (int cell = 0; cell < 20; cell++) {
            lines.add("standing " + cell + " 0 : {}");
            lines.add("standing " + cell + " 1 : {}");
        }
        EDGE.holds("Nobody is there; it is calm", lines.toArray(new String[0]));
    }

    private static void arches() {
        EDGE.holds("The PATH has CELLS 0 to 19: arch", "arch -1 true : UNKNOWN", "arch 0 true : {0}",
                "arch 19 true : {0 19}", "arch 20 true : UNKNOWN", "arch -1 false : UNKNOWN",
                "arch 20 false : UNKNOWN", "arch 32 true : UNKNOWN", "arch 32 false : UNKNOWN",
                "arch 51 false : UNKNOWN", "arch MIN true : UNKNOWN", "arch MAX false : UNKNOWN", "told 2 : {0 19}");
        EDGE.holds("A CELL is an ARCH (is true), or not: as it was already", "arch 4 false : {}", "arch 4 true : {4}",
                "arch 4 true : {4}", "arch 5 true : {4 5}", "arch 4 false : {5}", "arch 4 false : {5}", "told 2 : {5}");
        List<String> lines = new ArrayList<>();
        for (int cell = 0; cell < 20; cell++) {
            lines.add("arch " + cell + " true : " + ((1 << cell + 1) - 1));
        }
        lines.add("told 2 : 1048575");
        for (int cell = 0; cell < 20; cell++) {
            lines.add("arch " + cell + " false : " + (1048576 - (1 << cell + 1)));
        }
        lines.add("told 2 : {}");
        EDGE.holds("which are, as bits: all of them, none of them", lines.toArray(new String[0]));
        EDGE.holds("an ARCH may be told where somebody is", "walker 0 4 0 : 1", "walker 1 4 0 : 2", "arch 4 true : {4}",
                "standing 4 0 : {0 1}", "days A=B= : 2");
    }

    private static void gaps() {
        EDGE.holds("GAP is 0 to 19", "gap -1 : OUTSIDE", "gap 0 : 3", "gap 19 : 0", "gap 20 : OUTSIDE", "told 3 : 19",
                "gap MIN : OUTSIDE", "gap MAX : OUTSIDE", "gap 19 : 19");
    }

    private static void walkers() {
        EDGE.holds("WALKERS 0 to 5: walker", "walker -1 4 1 : UNKNOWN", "walker 0 4 1 : 1", "walker 5 4 1 : 2",
                "walker 6 4 1 : UNKNOWN", "walker MIN 4 1 : UNKNOWN", "walker MAX 4 1 : UNKNOWN", "told 1 : {0 5}");
        EDGE.holds("CELLS 0 to 19: walker", "walker 0 -1 1 : UNKNOWN", "walker 0 0 1 : 1", "walker 1 19 1 : 2",
                "walker 0 20 1 : UNKNOWN", "walker 2 20 1 : UNKNOWN", "walker 2 MIN 0 : UNKNOWN",
                "walker 2 MAX 0 : UNKNOWN", "told 10 : 0", "told 20 : 19", "told 1 : {0 1}");
        EDGE.holds("LATE by 0 to 5", "walker 0 4 -1 : OUTSIDE", "walker 0 4 0 : 1", "told 11 : 0", "walker 0 4 5 : 1",
                "told 11 : 5", "walker 0 5 6 : OUTSIDE", "walker 1 5 6 : OUTSIDE", "walker 1 5 MIN : OUTSIDE",
                "walker 1 5 MAX : OUTSIDE", "told 10 : 4", "told 11 : 5", "told 1 : {0}");
        EDGE.holds("walker: UNKNOWN ahead of OUTSIDE", "walker -1 0 -1 : UNKNOWN", "walker 6 0 6 : UNKNOWN",
                "walker 0 -1 -1 : UNKNOWN", "walker 0 20 6 : UNKNOWN", "walker 6 20 6 : UNKNOWN", "told 1 : {}");
        EDGE.holds("how many are: none to all six", "walker 3 1 0 : 1", "walker 0 1 0 : 2", "walker 5 1 0 : 3",
                "walker 1 1 0 : 4", "walker 2 1 0 : 5", "walker 4 1 0 : 6", "walker 4 1 0 : 6",
                "walker 6 1 0 : UNKNOWN", "standing 1 0 : {0 1 2 3 4 5}", "standing 1 1 : {0 1 2 3 4 5}",
                "told 1 : {0 1 2 3 4 5}");
        EDGE.holds("A WALKER is there (or anew)", "gap 19 : 3", "walker 1 4 5 : 1", "days B>B>B>B=B>B*. : 7",
                "told 20 : 8", "told 22 : 5", "told 23 : 1", "walker 1 9 3 : 1", "told 20 : 9", "told 21 : 3",
                "told 22 : 9", "told 23 : 0", "told 24 : 9", "told 25 : 9", "told 26 : 9", "told 27 : 9",
                "told 28 : 9", "told 29 : NONE", "then 2 : 0", "standing 5 1 : {}", "standing 9 1 : {1}",
                "again 1 0 : STATE");
        EDGE.holds("anew in his own CELL with his own LATE", "walker 0 4 2 : 1", "days A>A> : 2", "told 12 : 4",
                "walker 0 6 2 : 1", "told 12 : 6", "told 14 : 6", "told 15 : 6", "told 18 : 6");
        EDGE.holds("While there is WIND an OTHER that has not PARTED is nowhere: of who is told in it", "days ~ : 1",
                "walker 0 4 0 : 1", "told 12 : NONE", "standing 4 0 : {0}", "standing 4 1 : {}", "days ~ : 1",
                "told 12 : 4", "standing 4 1 : {0}");
    }

    private static void leaving() {
        EDGE.holds("leave: UNKNOWN: he was not", "walker 1 4 1 : 1", "walker 4 4 1 : 2", "leave 0 : UNKNOWN",
                "leave -1 : UNKNOWN", "leave 6 : UNKNOWN", "leave MIN : UNKNOWN", "leave MAX : UNKNOWN", "leave 1 : 1",
                "leave 1 : UNKNOWN", "leave 4 : 0", "leave 4 : UNKNOWN", "told 1 : {}");
        EDGE.holds("leave: all six go", "walker 0 1 0 : 1", "walker 1 1 0 : 2", "walker 2 1 0 : 3", "walker 3 1 0 : 4",
                "walker 4 1 0 : 5", "walker 5 1 0 : 6", "leave 5 : 5", "leave 0 : 4", "leave 3 : 3", "leave 4 : 2",
                "leave 1 : 1", "leave 2 : 0", "told 1 : {}");
        EDGE.holds("A WALKER is no more, nor his OTHER", "walker 0 4 1 : 1", "days A>A> : 2", "standing 5 1 : {0}",
                "leave 0 : 0", "standing 5 1 : {}", "standing 6 0 : {}", "told 10 : OUTSIDE", "told 19 : OUTSIDE",
                "behind 0 0 : UNKNOWN", "trip 0 0 0 : UNKNOWN", "again 0 0 : UNKNOWN", "pad A= : 2", "judge 1 : 1");
        EDGE.holds("nor his OTHER that has PARTED", "walker 0 4 0 : 1", "walker 1 6 0 : 2", "arch 5 true : {5}",
                "days A*. : 2", "pad B< : 2", "judge 1 : 4", "wipe : 2", "then 2 : 1", "leave 0 : 1", "then 2 : 0",
                "standing 5 1 : {}", "year 74 1 1 : 0", "pad B< : 2", "judge 1 : NONE", "wipe : 2", "walker 0 9 0 : 2",
                "told 13 : 0", "told 12 : 9", "days . : 1", "told 12 : 9");
    }

    private static void saying() {
        EDGE.holds("codes 33 to 126", "say 32 : OUTSIDE", "say 33 : 1", "say 126 : 2", "say 127 : OUTSIDE",
                "say 0 : OUTSIDE", "say 10 : OUTSIDE", "say -33 : OUTSIDE", "say 65582 : OUTSIDE", "say MIN : OUTSIDE",
                "say MAX : OUTSIDE", "told 0 : 2", "fault : 0");
        List<String> lines = new ArrayList<>();
        for (int i = 1; i <= 60; i++) {
            lines.add("say '. : " + i);
        }
        lines.add("say '. : FULL");
        lines.add("say '~ : FULL");
        lines.add("say 33 : FULL");
        lines.add("say 126 : FULL");
        lines.add("told 0 : 60");
        EDGE.holds("60 SIGNS at most", lines.toArray(new String[0]));
        String[] full = {"pad " + ".".repeat(60) + " : 60"};
        EDGE.holdsEach("say: OUTSIDE ahead of FULL", full, "say 32 : OUTSIDE", "say 127 : OUTSIDE", "say MIN : OUTSIDE",
                "say MAX : OUTSIDE");
        EDGE.holds("a PAD that was full has room again", "pad " + ".".repeat(60) + " : 60", "say '. : FULL",
                "wipe : 60", "say '. : 1");
        EDGE.holds("a PAD that was full, and DONE, has room again", "days " + ".".repeat(60) + " : 60", "told 0 : 0",
                "say '. : 1");
        EDGE.holds("a sign that can not stand is on the PAD all the same", "say '! : 1", "say 'A : 2", "told 0 : 2",
                "wipe : 2");
    }

    private static void wiping() {
        EDGE.holds("Signs go: how many there were", "wipe : 0", "say 'A : 1", "wipe : 1", "wipe : 0", "fault : NONE",
                "pad " + "A=".repeat(30) + " : 60", "wipe : 60", "told 0 : 0", "judge 0 : NONE", "done : 0");
    }

    private static void faults() {
        EDGE.holds("THE FAULT; NONE: an empty PAD", "fault : NONE", "judge 0 : NONE", "judge 1 : NONE", "then 0 : 0");
        EDGE.holds("the first sign that can not stand there: the very first", "pad !A< : 3", "fault : 0", "pad G< : 2",
                "fault : 0", "pad < : 1", "fault : 0", "pad *A : 2", "fault : 0");
        EDGE.holds("the first sign that can not stand there: of several", "pad A<<> : 4", "fault : 2", "pad ~.xA< : 5",
                "fault : 2", "pad AA< : 3", "fault : 1", "pad A~ : 2", "fault : 1", "pad A. : 2", "fault : 1");
        EDGE.holds("the first sign that can not stand there: the sixtieth", "pad " + ".".repeat(59) + "= : 60",
                "fault : 59", "judge 0 : NO", "done : NO", "pad " + "A=".repeat(29) + "A. : 60", "fault : 59");
        EDGE.holds("the number of signs, if more must come", "pad A : 1", "fault : 1", "pad A<F : 3", "fault : 3",
                "pad " + ".".repeat(58) + "A : 59", "fault : 59", "say '= : 60", "fault : NONE");
        EDGE.holds("the number of signs, if more must come: the PAD is full", "pad " + ".".repeat(59) + "A : 60",
                "fault : 60", "say '= : FULL", "judge 0 : NO", "done : NO", "fault : 60");
        EDGE.holds("a full PAD without a FAULT", "walker 0 4 0 : 1", "pad " + "A=".repeat(30) + " : 60", "fault : NONE",
                "judge 0 : NONE", "done : 30");
        EDGE.holds("THE FAULT is of signs alone: who is not there, what can not be, is none", "pad F<E*~. : 6",
                "fault : NONE", "judge 0 : 0", "judge 1 : 1");
    }

    /** Each code from 33 to 126 at the beginning, behind a letter, and behind a whole act. */
    private static void everySign() {
        for (int sign = 33; sign <= 126; sign++) {
            boolean isLetter = sign >= 'A' && sign <= 'F';
            boolean isAlone = sign == '~' || sign == '.';
            boolean isDeed = sign == '<' || sign == '>' || sign == '=' || sign == '*';
            String say = "say " + sign + " : ";
            String begins = isLetter ? "1" : isAlone ? "NONE" : "0";
            String goesOn = isLetter ? "3" : isAlone ? "NONE" : "2";
            EDGE.holds("DAYS begin with a letter, ~ or .", say + 1, "fault : " + begins);
            EDGE.holds("behind a WALKER's letter: <, >, =, *", "say 'F : 1", say + 2,
                    "fault : " + (isDeed ? "NONE" : "1"));
            EDGE.holds("behind an ACT an ACT", "pad C= : 2", say + 3, "fault : " + goesOn);
            EDGE.holds("behind ~ and . an ACT", "pad .~ : 2", say + 3, "fault : " + goesOn);
        }
    }

    /** The other of each late: where he was so many acts ago, and in the cell told till there were so many. */
    private static void lates() {
        String[] steps = {"A>", "A>", "A>", "A<", "A=", "A>", "A>"};
        int[] was = {4, 5, 6, 7, 6, 6, 7, 8};
        for (int late = 0; late <= 5; late++) {
            List<String> lines = new ArrayList<>();
            lines.add("gap 19 : 3");
            lines.add("walker 0 4 " + late + " : 1");
            lines.add("told 12 : 4");
            for (int k = 1; k <= steps.length; k++) {
                lines.add("days " + steps[k - 1] + " : 1");
                lines.add("told 10 : " + was[k]);
                lines.add("told 12 : " + was[Math.max(0, k - late)]);
                for (int ago = 1; ago <= 5; ago++) {
                    lines.add("told " + (13 + ago) + " : " + was[Math.max(0, k - ago)]);
                }
            }
            EDGE.holds("in the CELL in which he was told, if there were not so many since: LATE " + late,
                    lines.toArray(new String[0]));
        }
    }

    /** "his own acts (<, >, = alone count)". */
    private static void whatCountsAsHisAct() {
        String[] beginning = {"walker 0 4 2 : 1", "walker 1 9 2 : 2", "days A>A> : 2", "told 12 : 4"};
        String[] one = {"told 10 : 6", "told 12 : 4", "told 14 : 5", "told 15 : 4", "told 16 : 4"};
        EDGE.holds("a beat is no act of his", Edge.join(Edge.join(beginning, "days ... : 3"), one));
        EDGE.holds("another one's acts are not his", Edge.join(Edge.join(beginning, "days B>B=B<B* : 4"), one));
        EDGE.holds("a stone is no act of his: it PARTS where it is", Edge.join(Edge.join(beginning, "days A* : 1"),
                one));
        EDGE.holds("to wait is one", Edge.join(beginning, "days A= : 1", "told 10 : 6", "told 12 : 5", "told 14 : 6",
                "told 15 : 5", "told 16 : 4", "days A= : 1", "told 12 : 6", "told 17 : 4", "told 18 : 4"));
        EDGE.holds("to go west is one", Edge.join(beginning, "days A< : 1", "told 10 : 5", "told 12 : 5",
                "told 14 : 6"));
        EDGE.holds("to go east is one", Edge.join(beginning, "days A> : 1", "told 10 : 7", "told 12 : 5",
                "told 14 : 6"));
        EDGE.holds("told 4 to 8: five acts are told, a sixth is not", "gap 19 : 3", "walker 0 4 0 : 1",
                "days A>A>A>A>A> : 5", "told 18 : 4", "days A> : 1", "told 14 : 9", "told 15 : 8", "told 16 : 7",
                "told 17 : 6", "told 18 : 5");
    }
}
