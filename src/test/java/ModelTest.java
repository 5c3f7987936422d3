import java.util.List;
import java.util.Random;

/** Runs of 512 calls by draws on one object, each answer held against the model's. */
public final class ModelTest {
    private static final Due DUE = new Due("ModelTest");
    private static final int NONE = Model.NONE, UNKNOWN = Model.UNKNOWN, OUTSIDE = Model.OUTSIDE;
    private static final int STATE = Model.STATE, FULL = Model.FULL, NO = Model.NO;

    private final Random random;
    private final String run;
    private final WaterOthers x = new WaterOthers();
    private final Model m = new Model();
    private int calls;

    private ModelTest(int seed) {
        random = new Random(seed);
        run = "run " + seed + ": ";
    }

    public static void main(String[] args) {
        int[] done = new int[2];
        for (int seed = 0; seed < 1500; seed++) {
            ModelTest test = new ModelTest(seed);
            // A draw makes six calls at most, and an object is used for 512.
            while (test.calls <= 506) {
                test.call(done);
            }
        }
        DUE.isTrue("the draws come to days that are done, and to days that are not", done[0] > 500 && done[1] > 500);
        DUE.end();
    }

    private void is(String call, long got, long want) {
        calls++;
        DUE.is(run + call, got, want);
    }

    /** Mostly as told, now and then one off at either end. */
    private int draw(int least, int most) {
        int odd = random.nextInt(40);
        return odd == 0 ? least - 1 : odd == 1 ? most + 1 : least + random.nextInt(most - least + 1);
    }

    private static boolean in(int v, int least, int most) {
        return v >= least && v <= most;
    }

    private void call(int[] done) {
        int kind = random.nextInt(100);
        if (kind < 34) {
            write();
        } else if (kind < 50) {
            days(done);
        } else if (kind < 62) {
            path();
        } else if (kind < 75) {
            told();
        } else if (kind < 85) {
            standing();
        } else if (kind < 90) {
            again();
        } else if (kind < 94) {
            year();
        } else if (kind == 94) {
            trip();
        } else if (kind == 95) {
            fitting();
        } else {
            images();
        }
    }

    private void write() {
        int kind = random.nextInt(30);
        String signs;
        if (kind < 20) {
            signs = "ABCDEF".charAt(random.nextInt(6)) + "" + "<>>=*".charAt(random.nextInt(5));
        } else if (kind < 28) {
            signs = random.nextBoolean() ? "~." : ".";
        } else {
            signs = "" + (char) (30 + random.nextInt(100));
        }
        for (char sign : signs.toCharArray()) {
            int want = !in(sign, 33, 126) ? OUTSIDE : m.pad.length() == 60 ? FULL : m.pad.length() + 1;
            is("say(" + (int) sign + ")", x.say(sign), want);
            m.pad += want > 0 ? "" + sign : "";
        }
    }

    private void days(int[] done) {
        is("fault() of " + m.pad, x.fault(), m.fault());
        boolean isFaulty = m.fault() != NONE;
        Model end = m.copy();
        end.pad = m.pad;
        int acts = isFaulty ? NO : end.tell();
        boolean can = acts >= 0;
        int what = draw(0, 1);
        int judged = can || what == 1 ? what == 0 ? NONE : end.why : NONE - 1 - acts;
        is("judge(" + what + ") of " + m.pad, x.judge(what), !in(what, 0, 1) ? OUTSIDE : isFaulty ? NO : judged);
        thenOf(end, can);
        behindOf(end, can);
        if (random.nextInt(3) == 0) {
            is("done() of " + m.pad, x.done(), can ? acts : NO);
            done[can ? 0 : 1]++;
            if (can) {
                m.take(end);
                m.pad = "";
            }
        }
        if (!can && random.nextInt(2) == 0) {
            is("wipe()", x.wipe(), m.pad.length());
            m.pad = "";
        }
    }

    private void thenOf(Model end, boolean can) {
        int what = draw(0, 4);
        int[] all = {end.wind ? 1 : 0, end.beat, end.parted(), end.partingAct, end.partingWho};
        is("then(" + what + ") of " + m.pad, x.then(what), !in(what, 0, 4) ? OUTSIDE : can ? all[what] : NO);
    }

    private void behindOf(Model end, boolean can) {
        int who = draw(0, 5);
        int what = draw(0, 2);
        int want = UNKNOWN;
        if (m.has(who)) {
            int[] all = {end.ones[who].ago(0), end.other(who), end.ones[who].stray == null ? 0 : 1};
            want = !in(what, 0, 2) ? OUTSIDE : can ? all[what] : NO;
        }
        is("behind(" + who + ", " + what + ") of " + m.pad, x.behind(who, what), want);
    }

    private void path() {
        int kind = random.nextInt(8);
        int cell = draw(0, 19);
        int who = draw(0, 5);
        if (kind < 2) {
            boolean is = random.nextBoolean();
            if (in(cell, 0, 19)) {
                m.arch[cell] = is;
            }
            is("arch(" + cell + ", " + is + ")", x.arch(cell, is), in(cell, 0, 19) ? archBits() : UNKNOWN);
        } else if (kind == 2) {
            int v = random.nextInt(4) == 0 ? draw(0, 19) : draw(0, 4);
            is("gap(" + v + ")", x.gap(v), in(v, 0, 19) ? m.gap : OUTSIDE);
            m.gap = in(v, 0, 19) ? v : m.gap;
        } else if (kind == 3) {
            boolean has = m.has(who);
            if (has) {
                m.ones[who] = null;
            }
            is("leave(" + who + ")", x.leave(who), has ? m.count() : UNKNOWN);
        } else {
            int late = draw(0, 5);
            boolean isKnown = in(who, 0, 5) && in(cell, 0, 19);
            if (isKnown && in(late, 0, 5)) {
                m.ones[who] = new Model.One();
                m.ones[who].late = late;
                m.ones[who].begin(cell);
            }
            int want = !isKnown ? UNKNOWN : in(late, 0, 5) ? m.count() : OUTSIDE;
            is("walker(" + who + ", " + cell + ", " + late + ")", x.walker(who, cell, late), want);
        }
    }

    private int archBits() {
        int bits = 0;
        for (int i = 0; i < 20; i++) {
            bits += m.arch[i] ? 1 << i : 0;
        }
        return bits;
    }

    private int thereBits() {
        int bits = 0;
        for (int i = 0; i < 6; i++) {
            bits += m.has(i) ? 1 << i : 0;
        }
        return bits;
    }

    private void told() {
        int what = random.nextInt(4) == 0 ? draw(0, 9) : draw(10, 69);
        int want = OUTSIDE;
        if (what < 10) {
            int[] all = {m.pad.length(), thereBits(), archBits(), m.gap, m.wind ? 1 : 0, m.beat, m.sights.size()};
            want = in(what, 0, 6) ? all[what] : OUTSIDE;
        } else if (m.has(what / 10 - 1)) {
            int who = what / 10 - 1;
            Model.One one = m.ones[who];
            int way = one.stray == null ? NONE : one.way == 1 ? 1 : 0;
            int[] all = {one.ago(0), one.late, m.other(who), one.stray == null ? 0 : 1, one.ago(1), one.ago(2),
                one.ago(3), one.ago(4), one.ago(5), way};
            want = all[what % 10];
        }
        is("told(" + what + ")", x.told(what), want);
    }

    private void standing() {
        int cell = draw(0, 19);
        int what = draw(0, 1);
        int bits = 0;
        for (int i = 0; i < 6; i++) {
            if (m.has(i) && (what == 0 ? m.ones[i].ago(0) : m.other(i)) == cell) {
                bits |= 1 << i;
            }
        }
        int want = !in(cell, 0, 19) ? UNKNOWN : in(what, 0, 1) ? bits : OUTSIDE;
        is("standing(" + cell + ", " + what + ")", x.standing(cell, what), want);
    }

    private void again() {
        int who = draw(0, 5);
        int what = draw(0, 1);
        int want = UNKNOWN;
        if (m.has(who)) {
            want = !in(what, 0, 1) ? OUTSIDE : m.ones[who].stray == null ? STATE : meeting(who, what);
        }
        is("again(" + who + ", " + what + ")", x.again(who, what), want);
    }

    private int meeting(int who, int what) {
        Model ahead = m.copy();
        ahead.beat = 0;
        int cell = m.ones[who].ago(0);
        int beats = 0;
        while (Math.abs(ahead.ones[who].stray - cell) > beats) {
            ahead.act(-1, '.');
            beats++;
        }
        return what == 0 ? beats : ahead.ones[who].stray;
    }

    private void year() {
        int seed = draw(0, 9999);
        int acts = draw(1, 99);
        int what = draw(0, 2);
        Model drawn = m.copy();
        long draw = seed;
        for (int i = 0; i < acts; i++) {
            draw = (75 * draw + 74) % 65537;
            drawn.act((int) (draw % 6), "<<>>=*~.".charAt((int) (draw / 6 % 8)));
        }
        int sum = 0;
        for (Model.One one : drawn.ones) {
            sum += one == null ? 0 : one.ago(0);
        }
        int[] all = {sum, drawn.parted(), drawn.wind ? 1 : 0};
        boolean isAsTold = in(seed, 0, 9999) && in(acts, 1, 99) && in(what, 0, 2);
        is("year(" + seed + ", " + acts + ", " + what + ")", x.year(seed, acts, what), isAsTold ? all[what] : OUTSIDE);
    }

    private void images() {
        int n = draw(0, 1);
        int kind = random.nextInt(6);
        if (kind == 0) {
            is("image(" + n + ")", x.image(n), in(n, 0, 1) ? 1 : OUTSIDE);
            if (in(n, 0, 1)) {
                m.images[n] = m.copy();
            }
        } else if (kind == 1) {
            boolean isKept = in(n, 0, 1) && m.images[n] != null;
            is("restore(" + n + ")", x.restore(n), !in(n, 0, 1) ? OUTSIDE : isKept ? 1 : STATE);
            if (isKept) {
                m.take(m.images[n]);
            }
        } else if (kind == 2 && random.nextInt(4) == 0) {
            is("forget()", x.forget(), m.sights.size());
            m.sights.clear();
        } else {
            int beat = draw(0, 60);
            int cell = draw(0, 19);
            boolean isFull = m.sights.size() == 8;
            int want = !in(cell, 0, 19) ? UNKNOWN : !in(beat, 0, 60) ? OUTSIDE : isFull ? FULL : m.sights.size() + 1;
            is("seen(" + beat + ", " + cell + ")", x.seen(beat, cell), want);
            if (want > 0) {
                m.sights.add(new int[] {beat, cell});
            }
        }
    }

    private void trip() {
        int who = draw(0, 5);
        int cell = draw(0, 19);
        int what = draw(0, 1);
        boolean isKnown = m.has(who) && in(cell, 0, 19);
        int want = !isKnown ? UNKNOWN : in(what, 0, 1) ? m.trip(who, cell)[what] : OUTSIDE;
        is("trip(" + who + ", " + cell + ", " + what + ")", x.trip(who, cell, what), want);
    }

    private void fitting() {
        List<int[]> fits = m.fits();
        int i = draw(0, Math.max(0, fits.size() - 1));
        int want = i < 0 ? fits.size() : NONE;
        if (in(i, 0, fits.size() - 1)) {
            want = 1000 * fits.get(i)[0] + 10 * fits.get(i)[1] + fits.get(i)[2];
        }
        is("fits(" + i + ")", x.fits(i), want);
        int what = draw(0, 1);
        is("ask(" + what + ")", x.ask(what), in(what, 0, 1) ? m.ask(fits)[what] : OUTSIDE);
    }
}
