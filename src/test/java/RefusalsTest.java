/**
 * "Calls that are refused answer, the first of these that fits: UNKNOWN, OUTSIDE, NO, STATE, FULL. They change
 * nothing." Every call that can be refused, for each of its reasons and for two at once, where much could be changed.
 */
public final class RefusalsTest {
    private static final Edge EDGE = new Edge("RefusalsTest");

    /** Who walks, who has parted and turned, arches, sights and one image, of another day. */
    private static final String[] BUSY = {"arch 3 true", "arch 12 true", "walker 0 5 2", "walker 5 19 0",
        "walker 3 9 5", "gap 4", "seen 5 9", "seen 6 12", "days D>D>A<F*A=.D< : 7", "image 1", "gap 2", "walker 2 0 1",
        "arch 12 false", "seen 60 0", "days .C>D>A*. : 5"};

    public static void main(String[] args) {
        everywhere("a new object");
        everywhere("much is there", BUSY);
        everywhere("much is there, in WIND", Edge.join(BUSY, "days ~A<D= : 3", "image 0"));
        everywhere("days are on the PAD", Edge.join(BUSY, "pad C>.A=~"));
        everywhere("days with a FAULT are on the PAD", Edge.join(BUSY, "pad C>.A"));
        everywhere("days that can not be are on the PAD", Edge.join(BUSY, "pad C>.B="));
        everywhere("the PAD and SIGHTS are full", full());
        unknown();
        state();
        no();
        full(full());
        EDGE.end();
    }

    private static String[] full() {
        String[] sights = new String[5];
        for (int i = 0; i < 5; i++) {
            sights[i] = "seen " + (60 - i) + " " + i;
        }
        return Edge.join(Edge.join(BUSY, sights), "pad " + "C=".repeat(29) + "~.");
    }

    /** What is refused whatever there is. */
    private static void everywhere(String where, String... scene) {
        EDGE.holdsEach("UNKNOWN: no such CELL: " + where, scene, "arch -1 true : UNKNOWN", "arch 20 true : UNKNOWN",
                "arch 20 false : UNKNOWN", "walker 0 -1 0 : UNKNOWN", "walker 2 20 0 : UNKNOWN",
                "standing -1 0 : UNKNOWN", "standing 20 1 : UNKNOWN", "seen 0 -1 : UNKNOWN", "seen 0 20 : UNKNOWN",
                "trip 2 -1 0 : UNKNOWN", "trip 2 20 1 : UNKNOWN");
        EDGE.holdsEach("UNKNOWN: no such WALKER: " + where, scene, "walker -1 4 0 : UNKNOWN", "walker 6 4 0 : UNKNOWN",
                "leave -1 : UNKNOWN", "leave 6 : UNKNOWN", "behind -1 0 : UNKNOWN", "behind 6 1 : UNKNOWN",
                "trip -1 4 0 : UNKNOWN", "trip 6 4 1 : UNKNOWN", "again -1 0 : UNKNOWN", "again 6 1 : UNKNOWN",
                "leave 1 : UNKNOWN", "behind 1 0 : UNKNOWN", "trip 1 4 0 : UNKNOWN", "again 1 0 : UNKNOWN");
        EDGE.holdsEach("UNKNOWN ahead of OUTSIDE: " + where, scene, "walker 6 4 6 : UNKNOWN",
                "walker 0 20 -1 : UNKNOWN", "behind 1 3 : UNKNOWN", "standing 20 2 : UNKNOWN", "trip 1 4 2 : UNKNOWN",
                "trip 2 20 2 : UNKNOWN", "again 1 2 : UNKNOWN", "seen 61 20 : UNKNOWN", "seen -1 -1 : UNKNOWN");
        EDGE.holdsEach("OUTSIDE: " + where, scene, "gap -1 : OUTSIDE", "gap 20 : OUTSIDE", "walker 0 4 -1 : OUTSIDE",
                "walker 2 4 6 : OUTSIDE", "say 32 : OUTSIDE", "say 127 : OUTSIDE", "judge -1 : OUTSIDE",
                "judge 2 : OUTSIDE", "then -1 : OUTSIDE", "then 5 : OUTSIDE", "standing 4 -1 : OUTSIDE",
                "standing 4 2 : OUTSIDE", "seen -1 4 : OUTSIDE", "seen 61 4 : OUTSIDE", "ask -1 : OUTSIDE",
                "ask 2 : OUTSIDE", "image -1 : OUTSIDE", "image 2 : OUTSIDE", "restore -1 : OUTSIDE",
                "restore 2 : OUTSIDE", "told -1 : OUTSIDE", "told 7 : OUTSIDE", "told 20 : OUTSIDE",
                "told 70 : OUTSIDE");
        EDGE.holdsEach("OUTSIDE, of numbers: " + where, scene, "order -1 0 0 : OUTSIDE", "order 0 1000000 0 : OUTSIDE",
                "order 0 0 2 : OUTSIDE", "lengths 100 0 0 : OUTSIDE", "lengths 0 -1 0 : OUTSIDE",
                "lengths 0 0 2 : OUTSIDE", "calm 16 5 1 0 0 : LOST OUTSIDE", "calm 3 11 1 0 0 : LOST OUTSIDE",
                "calm 3 5 16 0 0 : LOST OUTSIDE", "calm 3 5 1 2 0 : LOST OUTSIDE", "calm 3 5 1 0 2 : LOST OUTSIDE",
                "year -1 1 0 : OUTSIDE", "year 10000 1 0 : OUTSIDE", "year 0 0 0 : OUTSIDE", "year 0 100 0 : OUTSIDE",
                "year 0 1 3 : OUTSIDE");
        // What asks changes nothing either, nor does what is told of numbers alone.
        EDGE.holdsEach("only asked: " + where, scene, "fault", "judge 0", "judge 1", "behind 0 1", "then 3",
                "standing 9 1", "trip 3 19 1", "again 5 0", "order 123456 654321 1", "fits -1", "fits 5", "ask 0",
                "lengths 55 34 1", "calm 15 7 4 1 0", "year 321 99 0", "told 0", "told 42");
    }

    private static void unknown() {
        EDGE.holdsEach("UNKNOWN ahead of NO", Edge.join(BUSY, "pad A"), "behind 1 0 : UNKNOWN", "behind 6 2 : UNKNOWN");
        EDGE.holdsEach("UNKNOWN ahead of STATE", BUSY, "again 1 0 : UNKNOWN", "again -1 1 : UNKNOWN");
        EDGE.holdsEach("UNKNOWN ahead of FULL", full(), "seen 0 20 : UNKNOWN", "seen 61 -1 : UNKNOWN");
    }

    private static void state() {
        EDGE.holdsEach("STATE", BUSY, "again 2 0 : STATE", "again 3 1 : STATE", "restore 0 : STATE");
        EDGE.holdsEach("STATE, in WIND", Edge.join(BUSY, "days ~"), "again 2 0 : STATE", "restore 0 : STATE");
        EDGE.holdsEach("OUTSIDE ahead of STATE", BUSY, "again 2 2 : OUTSIDE", "again 3 -1 : OUTSIDE",
                "restore -1 : OUTSIDE", "restore 2 : OUTSIDE");
    }

    private static void no() {
        for (String days : new String[] {"!", "C", "C>A", "C>C.", "B=", "C>.~A*C<C<", "F>", "A*", "~D*"}) {
            String[] scene = Edge.join(BUSY, "pad " + days);
            EDGE.holdsEach("NO: " + days, scene, "done : NO", "behind 0 0 : NO", "behind 5 2 : NO", "then 0 : NO",
                    "then 4 : NO");
            EDGE.holdsEach("OUTSIDE ahead of NO: " + days, scene, "judge 2 : OUTSIDE", "behind 0 3 : OUTSIDE",
                    "then 5 : OUTSIDE");
        }
        EDGE.holdsEach("NO: there is a FAULT", Edge.join(BUSY, "pad B=C"), "judge 0 : NO", "judge 1 : NO");
        EDGE.holds("an ACT that can not be is no FAULT", Edge.join(BUSY, "pad C=B= : 4", "judge 0 : 1", "judge 1 : 1"));
    }

    private static void full(String[] scene) {
        EDGE.holdsEach("FULL", scene, "say '. : FULL", "say 33 : FULL", "say 126 : FULL", "seen 0 0 : FULL",
                "seen 60 19 : FULL");
        EDGE.holdsEach("OUTSIDE ahead of FULL", scene, "say 32 : OUTSIDE", "say 127 : OUTSIDE", "seen -1 0 : OUTSIDE",
                "seen 61 0 : OUTSIDE");
    }
}
