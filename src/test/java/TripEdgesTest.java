/** The edges that the document names in part 3 and in promises 14 to 16, sentence by sentence. */
public final class TripEdgesTest {
    private static final Edge EDGE = new Edge("TripEdgesTest");

    public static void main(String[] args) {
        tripRefusals();
        trips();
        tripsByGap();
        tripsThatGapDoesNotHold();
        againRefusals();
        meetings();
        orderRefusals();
        orders();
        EDGE.end();
    }

    private static void tripRefusals() {
        String[] one = {"walker 0 4 1 : 1", "walker 5 9 1 : 2"};
        EDGE.holds("WALKERS 0 to 5: trip", Edge.join(one, "trip -1 4 0 : UNKNOWN", "trip 0 4 0 : 0", "trip 5 9 0 : 0",
                "trip 6 4 0 : UNKNOWN", "trip 1 4 0 : UNKNOWN", "trip 4 4 1 : UNKNOWN", "trip MIN 4 0 : UNKNOWN",
                "trip MAX 4 0 : UNKNOWN"));
        EDGE.holds("CELLS 0 to 19: trip", Edge.join(one, "trip 0 -1 0 : UNKNOWN", "trip 0 0 0 : 4", "trip 0 19 0 : 15",
                "trip 0 20 0 : UNKNOWN", "trip 0 -1 1 : UNKNOWN", "trip 0 20 1 : UNKNOWN", "trip 0 MIN 0 : UNKNOWN",
                "trip 0 MAX 0 : UNKNOWN"));
        EDGE.holds("trip: what = 0, 1; OUTSIDE", Edge.join(one, "trip 0 9 -1 : OUTSIDE", "trip 0 9 0 : 5",
                "trip 0 9 1 : 2", "trip 0 9 2 : OUTSIDE", "trip 0 4 2 : OUTSIDE", "trip 0 9 MIN : OUTSIDE",
                "trip 0 9 MAX : OUTSIDE"));
        EDGE.holds("trip: UNKNOWN: both; ahead of OUTSIDE", Edge.join(one, "trip 1 9 2 : UNKNOWN",
                "trip 0 20 2 : UNKNOWN", "trip 6 20 -1 : UNKNOWN", "trip -1 -1 2 : UNKNOWN"));
    }

    private static void trips() {
        EDGE.holds("the first of them (NONE: 0 acts)", "walker 0 4 3 : 1", "trip 0 4 0 : 0", "trip 0 4 1 : NONE",
                "gap 0 : 3", "trip 0 4 0 : 0", "trip 0 4 1 : NONE", "days ~ : 1", "trip 0 4 0 : 0",
                "trip 0 4 1 : NONE", "days ~A* : 2", "trip 0 4 0 : 0", "trip 0 4 1 : NONE");
        EDGE.holds("he comes to a CELL: the whole PATH, east and back", "walker 0 0 0 : 1", "trip 0 19 0 : 19",
                "trip 0 19 1 : 2", "trip 0 1 0 : 1", "trip 0 1 1 : 2", "walker 0 19 0 : 1", "trip 0 0 0 : 19",
                "trip 0 0 1 : 1", "trip 0 18 0 : 1", "trip 0 18 1 : 1");
        EDGE.holds("all alone (ARCHES do not matter)", "walker 0 4 0 : 1", "arch 5 true : {5}", "walker 1 5 0 : 2",
                "pad A> : 2", "judge 1 : 4", "trip 0 5 0 : 1", "trip 0 5 1 : 2", "trip 0 6 0 : 2", "wipe : 2",
                "arch 3 true : {3 5}", "walker 2 3 0 : 3", "trip 0 3 0 : 1", "trip 0 0 0 : 4");
        EDGE.holds("(As things are now.): not BEHIND the PAD", "walker 0 4 0 : 1", "pad A> : 2", "trip 0 5 0 : 1",
                "trip 0 4 0 : 0", "done : 1", "trip 0 5 0 : 0", "trip 0 4 0 : 1");
    }

    private static void tripsByGap() {
        for (int late = 1; late <= 5; late++) {
            String told = "walker 0 4 " + late + " : 1";
            EDGE.holds("GAP being kept: just as much as LATE", told, "gap " + late + " : 3", "trip 0 19 0 : 15",
                    "trip 0 19 1 : 2", "trip 0 0 0 : 4", "trip 0 0 1 : 1");
            EDGE.holds("GAP being kept: 0 lets nobody go whose OTHER is LATE; NONE", told, "gap 0 : 3",
                    "trip 0 5 0 : NONE", "trip 0 5 1 : NONE", "trip 0 3 0 : NONE", "trip 0 19 1 : NONE",
                    "trip 0 4 0 : 0");
            // One wait is dear once, where the gap would be passed; then again every late acts.
            int one = late == 1 ? -6 : late + 1;
            EDGE.holds("GAP being kept: one less than LATE", told, "gap " + (late - 1) + " : 3",
                    "trip 0 " + (4 + late) + " 0 : " + one,
                    "trip 0 " + (4 + late) + " 1 : " + (late == 1 ? "NONE" : "2"));
        }
        EDGE.holds("GAP being kept: LATE 0 is never off", "walker 0 4 0 : 1", "gap 0 : 3", "trip 0 19 0 : 15",
                "trip 0 0 0 : 4", "trip 0 0 1 : 1");
        // Gap 1, two late: each step but the first waits for the one ahead of it.
        EDGE.holds("the fewest acts (steps, waits)", "walker 0 4 2 : 1", "gap 1 : 3", "trip 0 5 0 : 1",
                "trip 0 6 0 : 3", "trip 0 7 0 : 5", "trip 0 19 0 : 29", "trip 0 0 0 : 7", "trip 0 5 1 : 2",
                "trip 0 6 1 : 2", "trip 0 3 1 : 1");
        EDGE.holds("the first, the least by which it is as few: 0 he waits", "walker 0 4 2 : 1", "gap 1 : 3",
                "days A> : 1", "trip 0 6 0 : 2", "trip 0 6 1 : 0", "trip 0 7 0 : 4", "trip 0 7 1 : 0",
                "trip 0 4 0 : 1", "trip 0 4 1 : 1", "trip 0 3 1 : 1");
        EDGE.holds("the first, the least by which it is as few: he waits, bound for the west", "walker 0 9 2 : 1",
                "gap 1 : 3",
                "days A< : 1", "trip 0 7 0 : 2", "trip 0 7 1 : 0", "trip 0 6 0 : 4", "trip 0 6 1 : 0",
                "trip 0 9 0 : 1", "trip 0 9 1 : 2", "trip 0 10 1 : 2");
        EDGE.holds("a GAP that has become less", "walker 0 4 5 : 1", "days A>A>A> : 3", "gap 0 : 3",
                "trip 0 8 0 : NONE", "trip 0 7 0 : 0", "trip 0 4 0 : NONE", "gap 1 : 0", "pad A> : 2", "judge 1 : 3",
                "trip 0 8 0 : 5", "trip 0 8 1 : 0");
    }

    private static void tripsThatGapDoesNotHold() {
        String[] held = {"gap 0 : 3", "walker 0 4 5 : 1", "trip 0 19 0 : NONE"};
        EDGE.holds("if his OTHER is nowhere it does not matter", Edge.join(held, "days ~ : 1", "trip 0 19 0 : 15",
                "trip 0 19 1 : 2", "trip 0 0 0 : 4", "trip 0 0 1 : 1", "days ~ : 1", "trip 0 19 0 : NONE"));
        EDGE.holds("if it has PARTED it does not matter", Edge.join(held, "days A* : 1", "trip 0 19 0 : 15",
                "trip 0 0 0 : 4", "trip 0 0 1 : 1", "days ... : 3", "trip 0 19 0 : 15", "days ~ : 1",
                "trip 0 19 0 : 15"));
        EDGE.holds("it is his again, and matters", Edge.join(held, "days A*A* : 2", "trip 0 19 0 : NONE"));
        EDGE.holds("another one's having PARTED does matter to him no more than ever", Edge.join(held,
                "walker 1 4 5 : 2", "days B* : 1", "trip 0 19 0 : NONE", "trip 1 19 0 : 15"));
    }

    private static void againRefusals() {
        String[] two = {"walker 0 4 1 : 1", "walker 5 9 1 : 2", "days F* : 1"};
        EDGE.holds("WALKERS 0 to 5: again", Edge.join(two, "again -1 0 : UNKNOWN", "again 0 0 : STATE", "again 5 0 : 0",
                "again 6 0 : UNKNOWN", "again 1 0 : UNKNOWN", "again MIN 0 : UNKNOWN", "again MAX 1 : UNKNOWN"));
        EDGE.holds("again: what = 0, 1; OUTSIDE", Edge.join(two, "again 5 -1 : OUTSIDE", "again 5 0 : 0",
                "again 5 1 : 9", "again 5 2 : OUTSIDE", "again 5 MIN : OUTSIDE", "again 5 MAX : OUTSIDE"));
        EDGE.holds("again: UNKNOWN ahead of OUTSIDE", Edge.join(two, "again 1 2 : UNKNOWN", "again 6 -1 : UNKNOWN",
                "again -1 2 : UNKNOWN"));
        EDGE.holds("again: OUTSIDE ahead of STATE", Edge.join(two, "again 0 2 : OUTSIDE", "again 0 -1 : OUTSIDE"));
        EDGE.holds("STATE: it has not PARTED", Edge.join(two, "again 0 0 : STATE", "again 0 1 : STATE", "days F* : 1",
                "again 5 0 : STATE", "again 5 1 : STATE", "days ~ : 1", "again 5 0 : STATE"));
    }

    private static void meetings() {
        EDGE.holds("AGAIN (0: they are); in which", "walker 0 4 2 : 1", "days A* : 1", "again 0 0 : 0", "again 0 1 : 4",
                "days . : 1", "again 0 0 : 15", "again 0 1 : 18", "days A> : 1", "again 0 0 : 0", "again 0 1 : 5");
        EDGE.holds("AGAIN: it turns at the east end", "walker 0 19 0 : 1", "days A*A< : 2", "again 0 0 : 1",
                "again 0 1 : 18", "days A< : 1", "again 0 0 : 1", "again 0 1 : 18", "days A< : 1", "again 0 0 : 2",
                "again 0 1 : 17");
        EDGE.holds("AGAIN: it turns at the west end", "walker 0 19 0 : 1", "days A*" + ".".repeat(19) + " : 20",
                "told 12 : 0", "told 19 : 0", "days " + "A<".repeat(18) + " : 18", "told 10 : 1", "again 0 0 : 1",
                "again 0 1 : 1", "days A> : 1", "again 0 0 : 1", "again 0 1 : 1", "days A> : 1", "again 0 0 : 2",
                "again 0 1 : 2");
        EDGE.holds("AGAIN: it goes on ahead of him to the east end", "walker 0 0 0 : 1", "days A*. : 2", "told 12 : 1",
                "again 0 0 : 19", "again 0 1 : 18");
        EDGE.holds("AGAIN: it goes on ahead of him to the west end", "walker 0 19 0 : 1", "days A*. : 2",
                "told 12 : 18", "again 0 0 : 19", "again 0 1 : 1");
        EDGE.holds("AGAIN: they come towards one another, over a CELL and over none", "walker 0 17 0 : 1",
                "days A*... : 4", "told 12 : 18", "told 19 : 0", "again 0 0 : 1", "again 0 1 : 17", "days A< : 1",
                "again 0 0 : 1", "again 0 1 : 17", "days A< : 1", "again 0 0 : 2", "again 0 1 : 16");
        EDGE.holds("AGAIN: ARCHES, who is in them, GAP and WIND are not told to matter", "walker 0 4 5 : 1",
                "walker 1 5 0 : 2", "arch 5 true : {5}", "gap 0 : 3", "days A*~ : 2", "again 0 0 : 0", "days . : 1",
                "again 0 0 : 15", "again 0 1 : 18");
        EDGE.holds("AGAIN, as things are now: not BEHIND the PAD", "walker 0 4 0 : 1", "pad A* : 2",
                "again 0 0 : STATE", "done : 1", "pad . : 1", "again 0 0 : 0", "again 0 1 : 4");
    }

    private static void orderRefusals() {
        EDGE.holds("OUTSIDE: a 0 to 999999", "order -1 1 0 : OUTSIDE", "order 0 1 0 : 0", "order 999999 1 0 : 0",
                "order 1000000 1 0 : OUTSIDE", "order MIN 1 0 : OUTSIDE", "order MAX 1 0 : OUTSIDE");
        EDGE.holds("OUTSIDE: b 0 to 999999", "order 1 -1 0 : OUTSIDE", "order 1 0 0 : 0", "order 0 999999 0 : 135",
                "order 1 1000000 0 : OUTSIDE", "order 1 MIN 1 : OUTSIDE", "order 1 MAX 1 : OUTSIDE");
        EDGE.holds("OUTSIDE: what", "order 0 1 -1 : OUTSIDE", "order 0 1 0 : 0", "order 0 1 1 : 5",
                "order 0 1 2 : OUTSIDE", "order 0 0 2 : OUTSIDE", "order 0 1 MIN : OUTSIDE", "order 0 1 MAX : OUTSIDE");
    }

    private static void orders() {
        EDGE.holds("the order (1; nobody comes: 0)", "order 0 0 0 : 0", "order 0 0 1 : 0", "order 999999 0 0 : 0",
                "order 999999 0 1 : 0", "order 123456 0 1 : 0");
        EDGE.holds("six digits, the first one's the highest", "order 0 100000 1 : 0", "order 0 10000 1 : 1",
                "order 0 1000 1 : 2", "order 0 100 1 : 3", "order 0 10 1 : 4", "order 0 1 1 : 5",
                "order 0 100000 0 : 0");
        EDGE.holds("likewise; 0: it does not come", "order 0 110000 0 : 1", "order 0 110000 1 : 1",
                "order 0 10010 0 : 1", "order 0 10010 1 : 14", "order 0 900001 0 : 1", "order 0 900001 1 : 50",
                "order 0 1 0 : 0");
        EDGE.holds("all six come", "order 0 111111 0 : 15", "order 0 111111 1 : 12345", "order 12345 111111 0 : 0",
                "order 12345 111111 1 : 12345", "order 543210 111111 0 : 0", "order 543210 111111 1 : 543210",
                "order 999999 999999 0 : 135", "order 999999 999999 1 : 12345", "order 0 987654 1 : 543210");
        EDGE.holds("one at a time: one goes just as the other comes", "order 200000 120000 0 : 0",
                "order 200000 120000 1 : 10", "order 100000 120000 0 : 1", "order 100000 120000 1 : 10");
        EDGE.holds("none ahead of its beat", "order 900000 110000 0 : 0", "order 900000 110000 1 : 10",
                "order 90000 110000 0 : 0", "order 90000 110000 1 : 1");
        EDGE.holds("whoever is there may be kept waiting", "order 10000 910000 0 : 2", "order 10000 910000 1 : 10",
                "order 100000 190000 0 : 2", "order 100000 190000 1 : 1");
        EDGE.holds("the first order (the least) by which it is", "order 0 220000 0 : 2", "order 0 220000 1 : 1",
                "order 0 22 1 : 45", "order 0 200002 1 : 5");
    }
}
