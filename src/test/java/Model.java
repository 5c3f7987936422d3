import java.util.ArrayList;
import java.util.List;

/** The document's state in its plainest form: every cell a walker was in since he was told, days as a text. */
final class Model {
    static final int NONE = -6, UNKNOWN = -1, OUTSIDE = -2, STATE = -3, FULL = -4, NO = -5;

    static final class One {
        int late;
        List<Integer> track = new ArrayList<>();
        Integer stray;
        int way;

        One copy() {
            One c = new One();
            c.late = late;
            c.track = new ArrayList<>(track);
            c.stray = stray;
            c.way = way;
            return c;
        }

        int ago(int acts) {
            return track.get(Math.max(0, track.size() - 1 - acts));
        }

        void begin(int cell) {
            track.clear();
            track.add(cell);
            stray = null;
        }
    }

    One[] ones = new One[6];
    boolean[] arch = new boolean[20];
    int gap = 3;
    boolean wind;
    int beat;
    List<int[]> sights = new ArrayList<>();
    String pad = "";
    Model[] images = new Model[2];

    int partingAct;
    int partingWho;
    int why;

    Model copy() {
        Model c = new Model();
        for (int i = 0; i < 6; i++) {
            c.ones[i] = ones[i] == null ? null : ones[i].copy();
        }
        c.arch = arch.clone();
        c.gap = gap;
        c.wind = wind;
        c.beat = beat;
        c.sights = new ArrayList<>(sights);
        return c;
    }

    void take(Model from) {
        Model c = from.copy();
        ones = c.ones;
        arch = c.arch;
        gap = c.gap;
        wind = c.wind;
        beat = c.beat;
        sights = c.sights;
    }

    boolean has(int who) {
        return who >= 0 && who < 6 && ones[who] != null;
    }

    int count() {
        int n = 0;
        for (One one : ones) {
            n += one == null ? 0 : 1;
        }
        return n;
    }

    int other(int who) {
        One one = ones[who];
        return one.stray != null ? one.stray : wind ? NONE : one.ago(one.late);
    }

    int parted() {
        int n = 0;
        for (One one : ones) {
            n += one != null && one.stray != null ? 1 : 0;
        }
        return n;
    }

    int fault() {
        String rest = pad;
        while (true) {
            if (rest.matches("[A-F][<>=*].*")) {
                rest = rest.substring(2);
            } else if (rest.matches("[~.].*")) {
                rest = rest.substring(1);
            } else if (rest.isEmpty()) {
                return NONE;
            } else {
                return pad.length() - rest.length() + (rest.matches("[A-F].*") ? 1 : 0);
            }
        }
    }

    /** Does all days on the pad in this very model: how many acts, or NONE less the act that can not be. */
    int tell() {
        partingAct = NONE;
        partingWho = NONE;
        why = NONE;
        int acts = 0;
        String rest = pad;
        while (!rest.isEmpty()) {
            boolean isAlone = rest.charAt(0) == '~' || rest.charAt(0) == '.';
            int who = isAlone ? -1 : rest.charAt(0) - 'A';
            char deed = rest.charAt(isAlone ? 0 : 1);
            boolean was = who >= 0 && has(who) && ones[who].stray != null;
            why = act(who, deed);
            if (why != NONE) {
                return NONE - 1 - acts;
            }
            if (who >= 0 && !was && ones[who].stray != null && partingAct == NONE) {
                partingAct = acts;
                partingWho = who;
            }
            acts++;
            rest = rest.substring(isAlone ? 1 : 2);
        }
        return acts;
    }

    /** NONE: it was done; the reason, if it can not be. */
    int act(int who, char deed) {
        if (deed == '~') {
            wind = !wind;
            for (One one : ones) {
                if (one != null && one.stray == null) {
                    one.begin(one.ago(0));
                }
            }
            return NONE;
        }
        if (deed == '.') {
            if (beat == 999) {
                return 6;
            }
            beat++;
            for (One one : ones) {
                if (one != null && one.stray != null) {
                    one.way = one.stray + one.way > 19 || one.stray + one.way < 0 ? -one.way : one.way;
                    one.stray += one.way;
                }
            }
            return NONE;
        }
        if (!has(who)) {
            return 1;
        }
        One one = ones[who];
        if (deed == '*') {
            return stone(who, one);
        }
        int cell = one.ago(0) + (deed == '<' ? -1 : deed == '>' ? 1 : 0);
        if (cell < 0 || cell > 19) {
            return 2;
        }
        one.track.add(cell);
        int behind = other(who);
        boolean isHeld = one.stray == null && !wind && deed != '=';
        int reason = NONE;
        if (isHeld && Math.abs(behind - cell) > gap) {
            reason = 3;
        } else if (deed != '=' && arch[cell]) {
            for (int i = 0; i < 6; i++) {
                if (i != who && has(i) && (ones[i].ago(0) == cell || other(i) == cell)) {
                    reason = 4;
                }
            }
        }
        if (reason != NONE) {
            one.track.remove(one.track.size() - 1);
        }
        return reason;
    }

    private int stone(int who, One one) {
        if (other(who) == NONE || one.stray != null && one.stray != one.ago(0)) {
            return 5;
        }
        if (one.stray != null) {
            one.begin(one.ago(0));
        } else {
            one.stray = other(who);
            one.way = 1;
        }
        return NONE;
    }
}
