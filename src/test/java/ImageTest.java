/** Promises 24 to 26: image, restore, told. */
public final class ImageTest {
    private static final Due DUE = new Due("ImageTest");
    private static final int NONE = WaterOthers.NONE;

    public static void main(String[] args) {
        refusals();
        allButThePad();
        twoImages();
        toldOfAll();
        DUE.end();
    }

    private static void refusals() {
        WaterOthers x = new WaterOthers();
        x.walker(1, 4, 2);
        for (int n : new int[] {-1, 2}) {
            DUE.refuses(x, "image(" + n + ")", () -> x.image(n), WaterOthers.OUTSIDE);
            DUE.refuses(x, "restore(" + n + ")", () -> x.restore(n), WaterOthers.OUTSIDE);
        }
        DUE.refuses(x, "restore(0)", () -> x.restore(0), WaterOthers.STATE);
        DUE.refuses(x, "image(1)", () -> x.image(1), 1);
        DUE.refuses(x, "restore(0), not 1", () -> x.restore(0), WaterOthers.STATE);
        DUE.is("restore(1)", x.restore(1), 1);
    }

    private static WaterOthers filled() {
        WaterOthers x = new WaterOthers();
        x.arch(3, true);
        x.gap(7);
        x.walker(0, 5, 2);
        x.walker(4, 9, 5);
        x.seen(4, 4);
        x.seen(5, 6);
        DUE.does(x, "A>A>A=E>E*.E>..~A>", 11);
        return x;
    }

    private static void allButThePad() {
        WaterOthers x = filled();
        String before = Due.all(x);
        int fit = x.fits(3);
        DUE.is("image(0)", x.image(0), 1);
        x.arch(3, false);
        x.arch(9, true);
        x.gap(2);
        x.leave(0);
        x.walker(1, 2, 0);
        x.walker(4, 1, 1);
        x.forget();
        x.seen(1, 1);
        x.seen(1, 1);
        DUE.does(x, ".~", 2);
        Due.write(x, "A");
        DUE.is("restore(0)", x.restore(0), 1);
        DUE.is("the pad stands", x.told(0), 1);
        DUE.is("with what was on it", x.fault(), 1);
        DUE.is("wipe()", x.wipe(), 1);
        DUE.isTrue("it is as it was", before.equals(Due.all(x)));
        DUE.is("the sights too", x.fits(3), fit);
        DUE.toldOf(x, 4, 11, 5, 12, 1, 10, 9, 9, 9, 9, 1);
        // What is done from there on does not change the image.
        x.seen(60, 0);
        DUE.does(x, "E<E<~..", 5);
        x.gap(0);
        DUE.is("restore(0) again", x.restore(0), 1);
        DUE.isTrue("it is as it was again", before.equals(Due.all(x)));
        DUE.is("the sights again", x.fits(3), fit);
    }

    private static void twoImages() {
        WaterOthers x = new WaterOthers();
        x.image(0);
        x.walker(0, 3, 0);
        x.image(1);
        x.walker(0, 4, 0);
        DUE.is("restore(1)", x.restore(1), 1);
        DUE.is("told(10)", x.told(10), 3);
        DUE.is("restore(0)", x.restore(0), 1);
        DUE.is("told(1)", x.told(1), 0);
        DUE.is("restore(1) from 0", x.restore(1), 1);
        DUE.is("told(10) from 0", x.told(10), 3);
        x.walker(0, 9, 0);
        x.image(1);
        x.leave(0);
        DUE.is("restore(1) kept anew", x.restore(1), 1);
        DUE.is("told(10) kept anew", x.told(10), 9);
    }

    private static void toldOfAll() {
        WaterOthers x = filled();
        Due.write(x, "xyz");
        int[] want = {3, 17, 8, 7, 1, 3, 2};
        for (int i = 0; i < want.length; i++) {
            DUE.is("told(" + i + ")", x.told(i), want[i]);
        }
        DUE.toldOf(x, 0, 8, 2, NONE, 0, 7, 7, 7, 7, 7, NONE);
        for (int what : new int[] {-1, -10, 7, 8, 9, 20, 29, 30, 49, 60, 69, 70, 71, 100, 1000, Integer.MIN_VALUE,
            Integer.MAX_VALUE}) {
            DUE.refuses(x, "told(" + what + ")", () -> x.told(what), WaterOthers.OUTSIDE);
        }
    }
}
