/** Promises 8 to 13: fault, judge, done, behind, then, standing. */
public final class DaysTest {
    private static final Due DUE = new Due("DaysTest");
    private static final int NONE = WaterOthers.NONE;

    public static void main(String[] args) {
        faults();
        reasons();
        gapIsKept();
        archesAreKept();
        stones();
        winds();
        beats();
        behindDays();
        thenOfDays();
        standingNow();
        doneDays();
        DUE.end();
    }

    private static void faults() {
        WaterOthers x = new WaterOthers();
        String[] days = {"", "A", "A<", "A<B", "G<", "@<", "a<", "A~", "A.", "AA<", "<", "~.~", "A<<", "A<~.F*B=C>",
            "A<~!", "*", "..=", "~A", "F<G>", "A>B?"};
        int[] places = {NONE, 1, NONE, 3, 0, 0, 0, 1, 1, 1, 0, NONE, 2, NONE, 3, 0, 2, 2, 2, 3};
        for (int i = 0; i < days.length; i++) {
            Due.write(x, days[i]);
            DUE.is("fault() of '" + days[i] + "'", x.fault(), places[i]);
            if (places[i] != NONE) {
                DUE.refuses(x, "judge(0) of " + days[i], () -> x.judge(0), WaterOthers.NO);
                DUE.refuses(x, "judge(1) of " + days[i], () -> x.judge(1), WaterOthers.NO);
                DUE.refuses(x, "done() of " + days[i], x::done, WaterOthers.NO);
                DUE.refuses(x, "then(0) of " + days[i], () -> x.then(0), WaterOthers.NO);
            }
        }
        for (int what : new int[] {-1, 2, 99}) {
            DUE.refuses(x, "judge(" + what + ")", () -> x.judge(what), WaterOthers.OUTSIDE);
        }
        Due.write(x, "");
        for (int i = 0; i < 30; i++) {
            x.say('A');
            x.say('=');
        }
        DUE.is("fault() of a full pad", x.fault(), NONE);
        Due.write(x, ".");
        for (int i = 0; i < 60; i++) {
            x.say(i % 2 == 0 ? 'A' : '=');
        }
        DUE.is("fault() of a full pad that asks for more", x.fault(), 60);
    }

    private static void reasons() {
        WaterOthers x = new WaterOthers();
        for (String days : new String[] {"A<", "A>", "A=", "A*"}) {
            DUE.barred(x, days, 0, 1);
        }
        DUE.barred(x, "~.~.", NONE, NONE);
        x.walker(0, 0, 1);
        x.walker(5, 19, 1);
        DUE.barred(x, "A<", 0, 2);
        DUE.barred(x, "F>", 0, 2);
        DUE.barred(x, "A>A<A<", 2, 2);
        DUE.barred(x, ".~.A=B=", 4, 1);
        DUE.barred(x, "F=F=F<B*F>", 3, 1);
        // The first act that can not be, even if a later one can not be for a lesser reason.
        DUE.barred(x, "A<B<", 0, 2);
        // Gap 0: the end of the path is a lesser reason than the gap.
        x.gap(0);
        DUE.barred(x, "A<", 0, 2);
        DUE.barred(x, "A>", 0, 3);
        // The gap is a lesser reason than an arch.
        x.walker(1, 1, 0);
        x.arch(1, true);
        DUE.barred(x, "A>", 0, 3);
        x.gap(1);
        DUE.barred(x, "A>", 0, 4);
    }

    private static void gapIsKept() {
        WaterOthers x = new WaterOthers();
        x.walker(0, 5, 5);
        DUE.barred(x, "A>A>A>", NONE, NONE);
        DUE.barred(x, "A>A>A>A>", 3, 3);
        DUE.barred(x, "A<A<A<A<", 3, 3);
        DUE.barred(x, "A>A>A>A=A=A>", NONE, NONE);
        DUE.barred(x, "A>A>A>A=A>", 4, 3);
        DUE.barred(x, "A>A>A>A<A>", NONE, NONE);
        // A beat is no act of his: his other does not come on by it.
        DUE.barred(x, "A>A>A>...A>", 6, 3);
        // Waiting is not held, however far off his other comes to be.
        DUE.does(x, "A>A>A>", 3);
        x.gap(0);
        DUE.barred(x, "A=A=A=A=A=", NONE, NONE);
        DUE.barred(x, "A=A=A=A=A=A<", 5, 3);
        DUE.barred(x, "A<", 0, 3);
        x.walker(1, 5, 0);
        DUE.barred(x, "B>B>B<B<B<B<B<B<B<", NONE, NONE);
        // Nowhere, or parted, his other holds him no more.
        DUE.barred(x, "~A<A<A<A<A<", NONE, NONE);
        DUE.barred(x, "A*A<A<A<A<A<A<A<A<", NONE, NONE);
        DUE.barred(x, "~A<A<~A<", 4, 3);
        x.gap(19);
        DUE.barred(x, "A<A<A<A<A<A<A<A<A<", 8, 2);
    }

    private static void archesAreKept() {
        WaterOthers x = new WaterOthers();
        x.gap(19);
        x.arch(8, true);
        x.walker(0, 7, 2);
        x.walker(1, 10, 5);
        // Nobody is in it; his own other does not matter.
        DUE.barred(x, "A>A>A<", NONE, NONE);
        // Another walker, then his other alone, then nobody.
        DUE.barred(x, "B<B<A>", 2, 4);
        DUE.barred(x, "B<B<B>A>", NONE, NONE);
        DUE.barred(x, "B<B<B>B=B=B=A=A>", NONE, NONE);
        DUE.barred(x, "B<B<B>B=B=B=B=A>", 7, 4);
        DUE.barred(x, "B<B<B>B=B=B=B=B=A>", NONE, NONE);
        // In wind an other that has not parted is nowhere, a walker is not.
        DUE.barred(x, "B<B<B>B=B=B=B=~A>", NONE, NONE);
        DUE.barred(x, "~B<B<A>", 3, 4);
        // Parted others are somewhere, in wind too.
        DUE.barred(x, "B<B<B=B=B=B=B=B*B>A>", 9, 4);
        DUE.barred(x, "B<B<B=B=B=B=B=B*B>~A>", 10, 4);
        DUE.barred(x, "B<B<B=B=B=B=B=B*B>.A>", NONE, NONE);
        // From both sides; who waits in it, or leaves it, is not held.
        DUE.barred(x, "A>A=B<B<", 3, 4);
        x.walker(2, 8, 0);
        x.walker(3, 8, 0);
        DUE.barred(x, "C=D=C>D<", NONE, NONE);
        DUE.barred(x, "C>C<", 1, 4);
        x.arch(8, false);
        DUE.barred(x, "A>B<B<", NONE, NONE);
    }

    private static void stones() {
        WaterOthers x = new WaterOthers();
        x.walker(0, 5, 2);
        DUE.barred(x, "A*A*A*A*", NONE, NONE);
        DUE.barred(x, "A>A*A*", 2, 5);
        DUE.barred(x, "A*.A*", 2, 5);
        DUE.barred(x, "~A*", 1, 5);
        DUE.barred(x, "A*~A*A*", 3, 5);
        DUE.does(x, "A>A>A*", 3);
        DUE.toldOf(x, 0, 7, 2, 5, 1, 6, 5, 5, 5, 5, 1);
        // His acts go on being told while his other is parted; it does not follow them.
        DUE.does(x, "A>A=.", 3);
        DUE.toldOf(x, 0, 8, 2, 6, 1, 8, 7, 6, 5, 5, 1);
        DUE.does(x, "A<A<", 2);
        DUE.does(x, "A*", 1);
        DUE.toldOf(x, 0, 6, 2, 6, 0, 6, 6, 6, 6, 6, NONE);
        DUE.barred(x, "A>A>A>A=A<", NONE, NONE);
        // It is his again in wind too, and nowhere then.
        DUE.does(x, "A*~A*", 3);
        DUE.toldOf(x, 0, 6, 2, NONE, 0, 6, 6, 6, 6, 6, NONE);
    }

    private static void winds() {
        WaterOthers x = new WaterOthers();
        x.walker(0, 5, 2);
        x.walker(1, 5, 3);
        DUE.does(x, "A>A>B>B>B*~", 6);
        // When wind begins each is as if just told where he is, but where his other has parted.
        DUE.toldOf(x, 0, 7, 2, NONE, 0, 7, 7, 7, 7, 7, NONE);
        DUE.toldOf(x, 1, 7, 3, 5, 1, 6, 5, 5, 5, 5, 1);
        DUE.is("told(4)", x.told(4), 1);
        DUE.does(x, "A>.B=", 3);
        DUE.toldOf(x, 0, 8, 2, NONE, 0, 7, 7, 7, 7, 7, NONE);
        DUE.toldOf(x, 1, 7, 3, 6, 1, 7, 6, 5, 5, 5, 1);
        // When it ends each other begins where he is, but a parted one.
        DUE.does(x, "~", 1);
        DUE.toldOf(x, 0, 8, 2, 8, 0, 8, 8, 8, 8, 8, NONE);
        DUE.toldOf(x, 1, 7, 3, 6, 1, 7, 6, 5, 5, 5, 1);
        DUE.is("told(4) calm", x.told(4), 0);
        windBegins();
    }

    /** Whatever LATE is, even 0, and whoever is told while there is wind. */
    private static void windBegins() {
        for (int late = 0; late <= 5; late++) {
            WaterOthers x = new WaterOthers();
            x.gap(19);
            x.walker(0, 0, late);
            DUE.does(x, "A>A>A>A<A>~", 6);
            DUE.toldOf(x, 0, 3, late, NONE, 0, 3, 3, 3, 3, 3, NONE);
            x.walker(5, 9, late);
            DUE.does(x, "A<F<F<A<A=", 5);
            DUE.toldOf(x, 0, 1, late, NONE, 0, 1, 2, 3, 3, 3, NONE);
            DUE.toldOf(x, 5, 7, late, NONE, 0, 8, 9, 9, 9, 9, NONE);
            DUE.does(x, "~~", 2);
            DUE.toldOf(x, 0, 1, late, NONE, 0, 1, 1, 1, 1, 1, NONE);
            DUE.toldOf(x, 5, 7, late, NONE, 0, 7, 7, 7, 7, 7, NONE);
        }
    }

    private static void beats() {
        WaterOthers x = new WaterOthers();
        x.walker(0, 18, 0);
        x.walker(1, 19, 0);
        x.walker(2, 1, 0);
        DUE.does(x, "A*B*", 2);
        int[] ofA = {19, 18, 17, 16, 15};
        int[] ofB = {18, 17, 16, 15, 14};
        for (int i = 0; i < ofA.length; i++) {
            DUE.does(x, ".", 1);
            DUE.is("told(12) at beat " + (i + 1), x.told(12), ofA[i]);
            DUE.is("told(19) at beat " + (i + 1), x.told(19), i == 0 ? 1 : 0);
            DUE.is("told(22) at beat " + (i + 1), x.told(22), ofB[i]);
            DUE.is("told(29) at beat " + (i + 1), x.told(29), 0);
            DUE.is("told(32) at beat " + (i + 1), x.told(32), 1);
            DUE.is("told(5)", x.told(5), i + 1);
        }
        DUE.does(x, "..............", 14);
        DUE.is("told(22) at the west end", x.told(22), 0);
        DUE.is("told(29) at the west end", x.told(29), 0);
        DUE.does(x, ".", 1);
        DUE.is("told(22) turned", x.told(22), 1);
        DUE.is("told(29) turned", x.told(29), 1);
        DUE.is("told(12) at the west end", x.told(12), 0);
        lastBeat();
    }

    /** 512 calls do not come as far as beat 999: this goes beyond what is promised of one object. */
    private static void lastBeat() {
        WaterOthers x = new WaterOthers();
        String hour = ".".repeat(60);
        for (int i = 0; i < 16; i++) {
            DUE.does(x, hour, 60);
        }
        DUE.barred(x, ".".repeat(39), NONE, NONE);
        DUE.barred(x, ".".repeat(40), 39, 6);
        DUE.does(x, ".".repeat(39), 39);
        DUE.is("told(5) at last", x.told(5), 999);
        DUE.barred(x, "~.", 1, 6);
        x.walker(0, 3, 0);
        DUE.does(x, "A*A>", 2);
        // A year that draws a beat, and then a stone of A: the beat can not be, so his other does not come to him.
        DUE.is("year(15, 2, 1) at last", x.year(15, 2, 1), 1);
        DUE.is("told(5) at last, still", x.told(5), 999);
    }

    private static void behindDays() {
        WaterOthers x = new WaterOthers();
        x.walker(0, 5, 1);
        x.walker(2, 9, 0);
        Due.write(x, "A>A>C*.C<~");
        String before = Due.all(x);
        int[][] want = {{7, NONE, 0}, {8, 10, 1}};
        for (int what = 0; what < 3; what++) {
            DUE.is("behind(0, " + what + ")", x.behind(0, what), want[0][what]);
            DUE.is("behind(2, " + what + ")", x.behind(2, what), want[1][what]);
        }
        DUE.isTrue("behind changes nothing", before.equals(Due.all(x)));
        for (int who : new int[] {-1, 1, 3, 6}) {
            DUE.refuses(x, "behind(" + who + ", 0)", () -> x.behind(who, 0), WaterOthers.UNKNOWN);
            DUE.refuses(x, "behind(" + who + ", 3)", () -> x.behind(who, 3), WaterOthers.UNKNOWN);
        }
        DUE.refuses(x, "behind(0, -1)", () -> x.behind(0, -1), WaterOthers.OUTSIDE);
        DUE.refuses(x, "behind(0, 3)", () -> x.behind(0, 3), WaterOthers.OUTSIDE);
        for (String days : new String[] {"A", "B<", "~A*", "x"}) {
            Due.write(x, days);
            DUE.refuses(x, "behind(0, 0) of " + days, () -> x.behind(0, 0), WaterOthers.NO);
            DUE.refuses(x, "behind(0, 3) of " + days, () -> x.behind(0, 3), WaterOthers.OUTSIDE);
            DUE.refuses(x, "behind(1, 0) of " + days, () -> x.behind(1, 0), WaterOthers.UNKNOWN);
        }
        Due.write(x, "");
        DUE.is("behind(0, 0) of nothing", x.behind(0, 0), 5);
        DUE.is("behind(0, 1) of nothing", x.behind(0, 1), 5);
    }

    private static void thenOfDays() {
        WaterOthers x = new WaterOthers();
        x.walker(0, 5, 1);
        x.walker(2, 9, 0);
        x.walker(4, 9, 0);
        thenIs(x, "", 0, 0, 0, NONE, NONE);
        thenIs(x, "~..", 1, 2, 0, NONE, NONE);
        thenIs(x, "A>.C*A*", 0, 1, 2, 2, 2);
        thenIs(x, "A>C*C*E*E*A*", 0, 0, 1, 1, 2);
        thenIs(x, "A*A*", 0, 0, 0, 0, 0);
        DUE.does(x, "C*", 1);
        // Who parted on an earlier day is among those that have, but is not the first of these.
        thenIs(x, "A=", 0, 0, 1, NONE, NONE);
        thenIs(x, "C*", 0, 0, 0, NONE, NONE);
        thenIs(x, "C*E*", 0, 0, 1, 1, 4);
        thenIs(x, "C*C*", 0, 0, 1, 1, 2);
        for (int what : new int[] {-1, 5}) {
            DUE.refuses(x, "then(" + what + ")", () -> x.then(what), WaterOthers.OUTSIDE);
        }
        Due.write(x, "B=");
        for (int what = 0; what < 5; what++) {
            int asked = what;
            DUE.refuses(x, "then(" + what + ")", () -> x.then(asked), WaterOthers.NO);
        }
        DUE.refuses(x, "then(5) of B=", () -> x.then(5), WaterOthers.OUTSIDE);
    }

    private static void thenIs(WaterOthers x, String days, int... want) {
        Due.write(x, days);
        for (int what = 0; what < 5; what++) {
            DUE.is("then(" + what + ") of " + days, x.then(what), want[what]);
        }
    }

    private static void standingNow() {
        WaterOthers x = new WaterOthers();
        x.walker(0, 5, 1);
        x.walker(1, 5, 0);
        x.walker(5, 6, 3);
        DUE.is("standing(5, 0)", x.standing(5, 0), 3);
        DUE.is("standing(5, 1)", x.standing(5, 1), 3);
        DUE.does(x, "A>F*", 2);
        DUE.is("standing(6, 0)", x.standing(6, 0), 33);
        DUE.is("standing(5, 1) behind a step", x.standing(5, 1), 3);
        DUE.is("standing(6, 1)", x.standing(6, 1), 32);
        DUE.does(x, "~.", 2);
        DUE.is("standing(5, 1) in wind", x.standing(5, 1), 0);
        DUE.is("standing(7, 1) in wind", x.standing(7, 1), 32);
        DUE.is("standing(5, 0) in wind", x.standing(5, 0), 2);
        for (int cell : new int[] {-6, -1, 20}) {
            DUE.refuses(x, "standing(" + cell + ", 1)", () -> x.standing(cell, 1), WaterOthers.UNKNOWN);
            DUE.refuses(x, "standing(" + cell + ", 2)", () -> x.standing(cell, 2), WaterOthers.UNKNOWN);
        }
        DUE.refuses(x, "standing(0, -1)", () -> x.standing(0, -1), WaterOthers.OUTSIDE);
        DUE.refuses(x, "standing(0, 2)", () -> x.standing(0, 2), WaterOthers.OUTSIDE);
    }

    private static void doneDays() {
        WaterOthers x = new WaterOthers();
        DUE.is("done() of nothing", x.done(), 0);
        x.walker(0, 5, 2);
        DUE.does(x, "A>A>~.", 4);
        DUE.is("told(0)", x.told(0), 0);
        DUE.toldOf(x, 0, 7, 2, NONE, 0, 7, 7, 7, 7, 7, NONE);
        DUE.is("told(5)", x.told(5), 1);
        Due.write(x, "A>B>");
        DUE.refuses(x, "done() of A>B>", x::done, WaterOthers.NO);
        DUE.is("the pad stands", x.wipe(), 4);
    }
}
