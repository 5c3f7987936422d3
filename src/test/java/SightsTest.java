import java.util.ArrayList;
import java.util.List;
import java.util.Random;

/** Promises 17 to 20: seen, forget, fits, ask. */
public final class SightsTest {
    private static final Due DUE = new Due("SightsTest");
    private static final int NONE = WaterOthers.NONE;

    public static void main(String[] args) {
        seeing();
        fitting();
        asking();
        sightsByTrying();
        everyPace();
        DUE.end();
    }

    private static void seeing() {
        WaterOthers x = new WaterOthers();
        DUE.is("forget() of none", x.forget(), 0);
        DUE.refuses(x, "seen(0, -1)", () -> x.seen(0, -1), WaterOthers.UNKNOWN);
        DUE.refuses(x, "seen(61, 20)", () -> x.seen(61, 20), WaterOthers.UNKNOWN);
        DUE.refuses(x, "seen(-1, 0)", () -> x.seen(-1, 0), WaterOthers.OUTSIDE);
        DUE.refuses(x, "seen(61, 0)", () -> x.seen(61, 0), WaterOthers.OUTSIDE);
        for (int i = 1; i <= 8; i++) {
            DUE.is("seen " + i, x.seen(i % 2 == 0 ? 60 : 0, 19), i);
        }
        DUE.is("told(6)", x.told(6), 8);
        DUE.refuses(x, "seen(0, 0) when full", () -> x.seen(0, 0), WaterOthers.FULL);
        DUE.refuses(x, "seen(61, 0) when full", () -> x.seen(61, 0), WaterOthers.OUTSIDE);
        DUE.refuses(x, "seen(0, 20) when full", () -> x.seen(0, 20), WaterOthers.UNKNOWN);
        DUE.is("fits(-1) of the same eight times", x.fits(-1), 70);
        DUE.is("forget()", x.forget(), 8);
        DUE.is("told(6) forgotten", x.told(6), 0);
        DUE.is("fits(-1) of no sights", x.fits(-1), 1400);
        DUE.is("seen anew", x.seen(3, 4), 1);
    }

    private static void fitting() {
        WaterOthers x = new WaterOthers();
        DUE.is("fits(0)", x.fits(0), 0);
        DUE.is("fits(9)", x.fits(9), 9);
        DUE.is("fits(10)", x.fits(10), 10);
        DUE.is("fits(69)", x.fits(69), 69);
        DUE.is("fits(70)", x.fits(70), 1000);
        DUE.is("fits(1399)", x.fits(1399), 19069);
        for (int i : new int[] {1400, -2, Integer.MIN_VALUE, Integer.MAX_VALUE}) {
            DUE.is("fits(" + i + ")", x.fits(i), NONE);
        }
        // Two sights a beat apart tell the pace; only from where and how late stay open together.
        x.seen(5, 1);
        x.seen(6, 18);
        DUE.is("fits(-1) of pace -3", x.fits(-1), 10);
        DUE.is("fits(0) of pace -3", x.fits(0), 1005);
        DUE.is("fits(1) of pace -3", x.fits(1), 4004);
        DUE.is("fits(9) of pace -3", x.fits(9), 18006);
        DUE.is("fits(10) of pace -3", x.fits(10), NONE);
        x.seen(5, 2);
        DUE.is("fits(-1) of two cells at once", x.fits(-1), 0);
        DUE.is("fits(0) of two cells at once", x.fits(0), NONE);
    }

    private static void asking() {
        WaterOthers x = new WaterOthers();
        DUE.is("ask(0)", x.ask(0), 0);
        DUE.is("ask(1)", x.ask(1), 70);
        DUE.refuses(x, "ask(2)", () -> x.ask(2), WaterOthers.OUTSIDE);
        DUE.refuses(x, "ask(-1)", () -> x.ask(-1), WaterOthers.OUTSIDE);
        x.seen(0, 0);
        DUE.is("ask(0) of one sight", x.ask(0), 1);
        DUE.is("ask(1) of one sight", x.ask(1), 10);
        x.seen(0, 1);
        DUE.is("ask(0) of nothing", x.ask(0), NONE);
        DUE.is("ask(1) of nothing", x.ask(1), NONE);
        DUE.refuses(x, "ask(2) of nothing", () -> x.ask(2), WaterOthers.OUTSIDE);
    }

    private static void sightsByTrying() {
        Random random = new Random(17);
        for (int i = 0; i < 60; i++) {
            WaterOthers x = new WaterOthers();
            List<int[]> sights = new ArrayList<>();
            int c = random.nextInt(20);
            int v = random.nextInt(7) - 3;
            int l = random.nextInt(10);
            int count = random.nextInt(4);
            for (int k = 0; k < count; k++) {
                int beat = random.nextInt(61);
                int cell = random.nextInt(8) == 0 ? random.nextInt(20) : cellAt(c, v, l, beat);
                x.seen(beat, cell);
                sights.add(new int[] {beat, cell});
            }
            compare(x, sights);
        }
    }

    /** From every cell at every pace: two sights that tell the pace leave ten, one for each late. */
    private static void everyPace() {
        for (int c = 0; c < 20; c++) {
            for (int v = -3; v <= 3; v++) {
                WaterOthers x = new WaterOthers();
                List<int[]> sights = new ArrayList<>();
                for (int beat = 0; beat < 2; beat++) {
                    int cell = cellAt(c, v, 0, beat);
                    x.seen(beat, cell);
                    sights.add(new int[] {beat, cell});
                }
                DUE.is("fits(-1) from " + c + " by " + v, x.fits(-1), 10);
                compare(x, sights);
            }
        }
    }

    private static int cellAt(int c, int v, int l, int beat) {
        int cell = c + v * (beat - l);
        while (cell < 0) {
            cell += 20;
        }
        return cell % 20;
    }

    private static void compare(WaterOthers x, List<int[]> sights) {
        List<int[]> fits = new ArrayList<>();
        for (int c = 0; c < 20; c++) {
            for (int v = -3; v <= 3; v++) {
                for (int l = 0; l <= 9; l++) {
                    boolean isFit = true;
                    for (int[] sight : sights) {
                        isFit &= cellAt(c, v, l, sight[0]) == sight[1];
                    }
                    if (isFit) {
                        fits.add(new int[] {c, v, l});
                    }
                }
            }
        }
        DUE.is("fits(-1)", x.fits(-1), fits.size());
        for (int i = 0; i < fits.size(); i += 1 + i / 20) {
            int[] one = fits.get(i);
            DUE.is("fits(" + i + ")", x.fits(i), 1000 * one[0] + 10 * (one[1] + 3) + one[2]);
        }
        int beat = NONE;
        int left = NONE;
        for (int t = 0; t <= 60 && !fits.isEmpty(); t++) {
            int[] crowd = new int[20];
            int most = 0;
            for (int[] one : fits) {
                most = Math.max(most, ++crowd[cellAt(one[0], one[1], one[2], t)]);
            }
            if (left == NONE || most < left) {
                left = most;
                beat = t;
            }
        }
        DUE.is("ask(0)", x.ask(0), beat);
        DUE.is("ask(1)", x.ask(1), left);
    }
}
