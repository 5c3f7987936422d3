/** Promises 1 to 7: a new object, arch, gap, walker, leave, say, wipe; and told of them. */
public final class PathTest {
    private static final Due DUE = new Due("PathTest");

    public static void main(String[] args) {
        newObject();
        arches();
        gaps();
        walkers();
        leaving();
        signs();
        DUE.end();
    }

    private static void newObject() {
        WaterOthers x = new WaterOthers();
        int[] first = {0, 0, 0, 3, 0, 0, 0};
        for (int i = 0; i < first.length; i++) {
            DUE.is("new told(" + i + ")", x.told(i), first[i]);
        }
        for (int what = 7; what < 80; what++) {
            DUE.is("new told(" + what + ")", x.told(what), WaterOthers.OUTSIDE);
        }
        for (int cell = 0; cell < 20; cell++) {
            DUE.is("new standing(" + cell + ", 0)", x.standing(cell, 0), 0);
            DUE.is("new standing(" + cell + ", 1)", x.standing(cell, 1), 0);
        }
        DUE.is("new fault()", x.fault(), WaterOthers.NONE);
        DUE.is("new judge(0)", x.judge(0), WaterOthers.NONE);
        DUE.is("new restore(0)", x.restore(0), WaterOthers.STATE);
        DUE.is("new restore(1)", x.restore(1), WaterOthers.STATE);
    }

    private static void arches() {
        WaterOthers x = new WaterOthers();
        DUE.is("arch(0, true)", x.arch(0, true), 1);
        DUE.is("arch(19, true)", x.arch(19, true), 1 | 1 << 19);
        DUE.is("arch(19, true) again", x.arch(19, true), 1 | 1 << 19);
        DUE.is("arch(7, true)", x.arch(7, true), 1 | 1 << 7 | 1 << 19);
        DUE.is("arch(0, false)", x.arch(0, false), 1 << 7 | 1 << 19);
        DUE.is("arch(1, false)", x.arch(1, false), 1 << 7 | 1 << 19);
        DUE.is("told(2)", x.told(2), 1 << 7 | 1 << 19);
        DUE.refuses(x, "arch(-1, true)", () -> x.arch(-1, true), WaterOthers.UNKNOWN);
        DUE.refuses(x, "arch(20, true)", () -> x.arch(20, true), WaterOthers.UNKNOWN);
        DUE.refuses(x, "arch(39, false)", () -> x.arch(39, false), WaterOthers.UNKNOWN);
    }

    private static void gaps() {
        WaterOthers x = new WaterOthers();
        DUE.is("gap(0)", x.gap(0), 3);
        DUE.is("gap(19)", x.gap(19), 0);
        DUE.is("told(3)", x.told(3), 19);
        DUE.refuses(x, "gap(-1)", () -> x.gap(-1), WaterOthers.OUTSIDE);
        DUE.refuses(x, "gap(20)", () -> x.gap(20), WaterOthers.OUTSIDE);
        DUE.is("gap(19) again", x.gap(19), 19);
    }

    private static void walkers() {
        WaterOthers x = new WaterOthers();
        DUE.is("walker(5, 19, 5)", x.walker(5, 19, 5), 1);
        DUE.is("walker(0, 0, 0)", x.walker(0, 0, 0), 2);
        DUE.is("told(1)", x.told(1), 33);
        DUE.toldOf(x, 5, 19, 5, 19, 0, 19, 19, 19, 19, 19, WaterOthers.NONE);
        DUE.toldOf(x, 0, 0, 0, 0, 0, 0, 0, 0, 0, 0, WaterOthers.NONE);
        DUE.refuses(x, "walker(-1, 0, 0)", () -> x.walker(-1, 0, 0), WaterOthers.UNKNOWN);
        DUE.refuses(x, "walker(6, 0, 0)", () -> x.walker(6, 0, 0), WaterOthers.UNKNOWN);
        DUE.refuses(x, "walker(0, -1, 0)", () -> x.walker(0, -1, 0), WaterOthers.UNKNOWN);
        DUE.refuses(x, "walker(0, 20, 9)", () -> x.walker(0, 20, 9), WaterOthers.UNKNOWN);
        DUE.refuses(x, "walker(0, 4, -1)", () -> x.walker(0, 4, -1), WaterOthers.OUTSIDE);
        DUE.refuses(x, "walker(0, 4, 6)", () -> x.walker(0, 4, 6), WaterOthers.OUTSIDE);
        // Anew: what he did, and that his other parted, is gone.
        DUE.does(x, "F<F<F=F*..", 6);
        DUE.toldOf(x, 5, 17, 5, 17, 1, 17, 18, 19, 19, 19, 0);
        DUE.is("walker(5, 4, 2)", x.walker(5, 4, 2), 2);
        DUE.toldOf(x, 5, 4, 2, 4, 0, 4, 4, 4, 4, 4, WaterOthers.NONE);
        // Two in one cell, in an arch too: being told there is no act.
        x.arch(4, true);
        DUE.is("walker(1, 4, 0)", x.walker(1, 4, 0), 3);
        DUE.is("standing(4, 0)", x.standing(4, 0), 34);
        // In wind his other is nowhere from the beginning.
        DUE.does(x, "~", 1);
        DUE.is("walker(2, 9, 1)", x.walker(2, 9, 1), 4);
        DUE.toldOf(x, 2, 9, 1, WaterOthers.NONE, 0, 9, 9, 9, 9, 9, WaterOthers.NONE);
    }

    private static void leaving() {
        WaterOthers x = new WaterOthers();
        x.walker(0, 5, 1);
        x.walker(3, 5, 1);
        DUE.does(x, "D*D>.", 3);
        DUE.refuses(x, "leave(1)", () -> x.leave(1), WaterOthers.UNKNOWN);
        DUE.refuses(x, "leave(-1)", () -> x.leave(-1), WaterOthers.UNKNOWN);
        DUE.refuses(x, "leave(6)", () -> x.leave(6), WaterOthers.UNKNOWN);
        DUE.is("standing(6, 1) with D", x.standing(6, 1), 8);
        DUE.is("then(2) with D", x.then(2), 1);
        DUE.is("leave(3)", x.leave(3), 1);
        DUE.is("told(1)", x.told(1), 1);
        DUE.is("told(40)", x.told(40), WaterOthers.OUTSIDE);
        DUE.is("standing(6, 0)", x.standing(6, 0), 0);
        DUE.is("standing(6, 1)", x.standing(6, 1), 0);
        DUE.is("then(2)", x.then(2), 0);
        DUE.is("year(0, 1, 1)", x.year(0, 1, 1), 0);
        x.arch(6, true);
        DUE.barred(x, "A>", WaterOthers.NONE, WaterOthers.NONE);
        DUE.refuses(x, "leave(3) again", () -> x.leave(3), WaterOthers.UNKNOWN);
        DUE.is("walker(3, 8, 0)", x.walker(3, 8, 0), 2);
        DUE.is("told(43)", x.told(43), 0);
        DUE.is("leave(0)", x.leave(0), 1);
        DUE.is("leave(3) at last", x.leave(3), 0);
    }

    private static void signs() {
        WaterOthers x = new WaterOthers();
        DUE.refuses(x, "say(32)", () -> x.say(32), WaterOthers.OUTSIDE);
        DUE.refuses(x, "say(127)", () -> x.say(127), WaterOthers.OUTSIDE);
        DUE.refuses(x, "say(-1)", () -> x.say(-1), WaterOthers.OUTSIDE);
        DUE.refuses(x, "say(65582)", () -> x.say(65536 + '.'), WaterOthers.OUTSIDE);
        DUE.is("say(33)", x.say(33), 1);
        DUE.is("say(126)", x.say(126), 2);
        DUE.is("told(0)", x.told(0), 2);
        DUE.is("wipe()", x.wipe(), 2);
        DUE.is("wipe() again", x.wipe(), 0);
        DUE.is("told(0) wiped", x.told(0), 0);
        for (int i = 1; i <= 60; i++) {
            DUE.is("say('.') " + i, x.say('.'), i);
        }
        DUE.refuses(x, "say('.') 61", () -> x.say('.'), WaterOthers.FULL);
        DUE.refuses(x, "say(32) when full", () -> x.say(32), WaterOthers.OUTSIDE);
        DUE.is("done() of 60", x.done(), 60);
        DUE.is("told(5)", x.told(5), 60);
        DUE.is("told(0) done", x.told(0), 0);
    }
}
