import java.util.Arrays;

/** What the project's tests share: comparing answers, writing days, and looking at all that can be told. */
final class Due {
    private final String test;
    private int wrong;

    Due(String test) {
        this.test = test;
    }

    void is(String call, long got, long want) {
        if (got != want) {
            wrong++;
            System.out.println(test + ": " + call + " answered " + got + ", due is " + want);
        }
    }

    void isTrue(String what, boolean holds) {
        if (!holds) {
            wrong++;
            System.out.println(test + ": " + what + " does not hold");
        }
    }

    /** Ends the test: exit code 1 if an answer was wrong. */
    void end() {
        System.out.println(wrong == 0 ? test + ": as due" : test + ": " + wrong + " answers are not as due");
        if (wrong != 0) {
            System.exit(1);
        }
    }

    /** Wipes the pad and writes these days on it. */
    static void write(WaterOthers x, String days) {
        x.wipe();
        for (int i = 0; i < days.length(); i++) {
            x.say(days.charAt(i));
        }
    }

    /** Writes days and does them. */
    void does(WaterOthers x, String days, int acts) {
        write(x, days);
        is("done() of " + days, x.done(), acts);
    }

    /** All ten answers of told about a walker. */
    void toldOf(WaterOthers x, int walker, int... want) {
        for (int k = 0; k < 10; k++) {
            int what = 10 + 10 * walker + k;
            is("told(" + what + ")", x.told(what), want[k]);
        }
    }

    /** Days that can not be: which act, and why; done, behind and then refuse them. */
    void barred(WaterOthers x, String days, int act, int why) {
        write(x, days);
        is("fault() of " + days, x.fault(), WaterOthers.NONE);
        is("judge(0) of " + days, x.judge(0), act);
        is("judge(1) of " + days, x.judge(1), why);
        if (act != WaterOthers.NONE) {
            is("then(0) of " + days, x.then(0), WaterOthers.NO);
            refuses(x, "done() of " + days, x::done, WaterOthers.NO);
        }
        x.wipe();
    }

    interface Call {
        int answer();
    }

    /** A refused call answers so, and changes nothing that can be told. */
    void refuses(WaterOthers x, String call, Call refused, int want) {
        String before = all(x);
        is(call, refused.answer(), want);
        String behind = all(x);
        isTrue(call + " changes nothing: " + before + " / " + behind, before.equals(behind));
    }

    static String all(WaterOthers x) {
        int[] told = new int[68];
        for (int i = 0; i < 7; i++) {
            told[i] = x.told(i);
        }
        for (int i = 0; i < 6; i++) {
            for (int k = 0; k < 10 && (told[1] >> i & 1) == 1; k++) {
                told[7 + 10 * i + k] = x.told(10 + 10 * i + k);
            }
        }
        told[67] = x.fits(-1);
        return Arrays.toString(told) + " " + x.fault();
    }
}
