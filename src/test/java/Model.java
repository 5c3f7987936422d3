import java.util.ArrayList;
import java.util.HashMap;
import java.util.HashSet;
import java.util.List;
import java.util.Map;
import java.util.Set;

/** The document's state in its plainest form: every cell a walker was in since he was told, days as a text. */
final class Model {
    static final int NONE = -6, UNKNOWN = -1, OUTSIDE = -2, STATE = -3, FULL = -4, NO = -5;

    static final class One {
        int late;
        List<Integer> track = new ArrayList<>();
        Integer stray;
        int way;

        One copy() {
            One c = new One();
            c.late = late;
            c.track = new ArrayList<>(track);
            c.stray = stray;
            c.way = way;
            return c;
        }

        int ago(int acts) {
            return track.get(Math.max(0, track.size() - 1 - acts));
        }

        /** As much of where he was as his other still goes by, the last cell being his. */
        List<Integer> lately() {
            List<Integer> cells = new ArrayList<>();
            for (int acts = late; acts >= 0; acts--) {
                cells.add(ago(acts));
            }
            return cells;
        }

        void begin(int cell) {
            track.clear();
            track.add(cell);
            stray = null;
        }
    }

    One[] ones = new One[6];
    boolean[] arch = new boolean[20];
    int gap = 3;
    boolean wind;
    int beat;
    List<int[]> sights = new ArrayList<>();
    String pad = "";
    Model[] images = new Model[2];

    int partingAct;
    int partingWho;
    int why;

    Model copy() {
        Model c = new Model();
        for (int i = 0; i < 6; i++) {
            c.ones[i] = ones[i] == null ? null : ones[i].copy();
        }
        c.arch = arch.clone();
        c.gap = gap;
        c.wind = wind;
        c.beat = beat;
        c.sights = new ArrayList<>(sights);
        return c;
    }

    void take(Model from) {
        Model c = from.copy();
        ones = c.ones;
        arch = c.arch;
        gap = c.gap;
        wind = c.wind;
        beat = c.beat;
        sights = c.sights;
    }

    boolean has(int who) {
        return who >= 0 && who < 6 && ones[who] != null;
    }

    int count() {
        int n = 0;
        for (One one : ones) {
            n += one == null ? 0 : 1;
        }
        return n;
    }

    int other(int who) {
        One one = ones[who];
        return one.stray != null ? one.stray : wind ? NONE : one.ago(one.late);
    }

    int parted() {
        int n = 0;
        for (One one : ones) {
            n += one != null && one.stray != null ? 1 : 0;
        }
        return n;
    }

    int fault() {
        String rest = pad;
        while (true) {
            if (rest.matches("[A-F][<>=*].*")) {
                rest = rest.substring(2);
            } else if (rest.matches("[~.].*")) {
                rest = rest.substring(1);
            } else if (rest.isEmpty()) {
                return NONE;
            } else {
                return pad.length() - rest.length() + (rest.matches("[A-F].*") ? 1 : 0);
            }
        }
    }

    /** Does all days on the pad in this very model: how many acts, or NONE less the act that can not be. */
    int tell() {
        partingAct = NONE;
        partingWho = NONE;
        why = NONE;
        int acts = 0;
        String rest = pad;
        while (!rest.isEmpty()) {
            boolean isAlone = rest.charAt(0) == '~' || rest.charAt(0) == '.';
            int who = isAlone ? -1 : rest.charAt(0) - 'A';
            char deed = rest.charAt(isAlone ? 0 : 1);
            boolean was = who >= 0 && has(who) && ones[who].stray != null;
            why = act(who, deed);
            if (why != NONE) {
                return NONE - 1 - acts;
            }
            if (who >= 0 && !was && ones[who].stray != null && partingAct == NONE) {
                partingAct = acts;
                partingWho = who;
            }
            acts++;
            rest = rest.substring(isAlone ? 1 : 2);
        }
        return acts;
    }

    /** NONE: it was done; the reason, if it can not be. */
    int act(int who, char deed) {
        if (deed == '~') {
            wind = !wind;
            for (One one : ones) {
                if (one != null && one.stray == null) {
                    one.begin(one.ago(0));
                }
            }
            return NONE;
        }
        if (deed == '.') {
            if (beat == 999) {
                return 6;
            }
            beat++;
            for (One one : ones) {
                if (one != null && one.stray != null) {
                    one.way = one.stray + one.way > 19 || one.stray + one.way < 0 ? -one.way : one.way;
                    one.stray += one.way;
                }
            }
            return NONE;
        }
        if (!has(who)) {
            return 1;
        }
        One one = ones[who];
        if (deed == '*') {
            return stone(who, one);
        }
        int cell = one.ago(0) + (deed == '<' ? -1 : deed == '>' ? 1 : 0);
        if (cell < 0 || cell > 19) {
            return 2;
        }
        one.track.add(cell);
        int behind = other(who);
        boolean isHeld = one.stray == null && !wind && deed != '=';
        int reason = NONE;
        if (isHeld && Math.abs(behind - cell) > gap) {
            reason = 3;
        } else if (deed != '=' && arch[cell]) {
            for (int i = 0; i < 6; i++) {
                if (i != who && has(i) && (ones[i].ago(0) == cell || other(i) == cell)) {
                    reason = 4;
                }
            }
        }
        if (reason != NONE) {
            one.track.remove(one.track.size() - 1);
        }
        return reason;
    }

    private int stone(int who, One one) {
        if (other(who) == NONE || one.stray != null && one.stray != one.ago(0)) {
            return 5;
        }
        if (one.stray != null) {
            one.begin(one.ago(0));
        } else {
            one.stray = other(who);
            one.way = 1;
        }
        return NONE;
    }

    /** How many acts, and the first: all that he alone can come to by one act, by two and so on. */
    int[] trip(int who, int goal) {
        Model alone = copy();
        alone.arch = new boolean[20];
        for (int i = 0; i < 6; i++) {
            alone.ones[i] = i == who ? alone.ones[i] : null;
        }
        if (ones[who].ago(0) == goal) {
            return new int[] {0, NONE};
        }
        List<Integer> now = alone.ones[who].lately();
        Set<List<Integer>> met = new HashSet<>(Set.of(now));
        Map<List<Integer>, Integer> level = Map.of(now, NONE);
        for (int acts = 1; !level.isEmpty(); acts++) {
            level = alone.nextLevel(who, level, met);
            int first = 3;
            for (Map.Entry<List<Integer>, Integer> one : level.entrySet()) {
                int last = one.getKey().size() - 1;
                first = one.getKey().get(last) == goal ? Math.min(first, one.getValue()) : first;
            }
            if (first < 3) {
                return new int[] {acts, first};
            }
        }
        return new int[] {NONE, NONE};
    }

    /** What one act more comes to and was not met yet, each with the least first act of a way to it. */
    private Map<List<Integer>, Integer> nextLevel(int who, Map<List<Integer>, Integer> level, Set<List<Integer>> met) {
        Map<List<Integer>, Integer> next = new HashMap<>();
        for (Map.Entry<List<Integer>, Integer> one : level.entrySet()) {
            for (int way = 0; way < 3; way++) {
                ones[who].track = new ArrayList<>(one.getKey());
                boolean can = act(who, "=<>".charAt(way)) == NONE;
                List<Integer> come = ones[who].lately();
                if (can && !met.contains(come)) {
                    next.merge(come, one.getValue() == NONE ? way : one.getValue(), Math::min);
                }
            }
        }
        met.addAll(next.keySet());
        return next;
    }

    /** c, v and 3, l of all that fit, rising. */
    List<int[]> fits() {
        List<int[]> all = new ArrayList<>();
        for (int c = 0; c < 20; c++) {
            for (int v = -3; v <= 3; v++) {
                for (int l = 0; l < 10; l++) {
                    boolean is = true;
                    for (int[] sight : sights) {
                        is &= ringCell(c, v, l, sight[0]) == sight[1];
                    }
                    if (is) {
                        all.add(new int[] {c, v + 3, l});
                    }
                }
            }
        }
        return all;
    }

    /** The beat to ask about, and how many are left then at the most. */
    int[] ask(List<int[]> fits) {
        int[] best = {NONE, NONE};
        for (int beat = 0; beat <= 60 && !fits.isEmpty(); beat++) {
            int[] in = new int[20];
            int most = 0;
            for (int[] fit : fits) {
                int cell = ringCell(fit[0], fit[1] - 3, fit[2], beat);
                in[cell]++;
                most = Math.max(most, in[cell]);
            }
            if (best[0] == NONE || most < best[1]) {
                best = new int[] {beat, most};
            }
        }
        return best;
    }

    private static int ringCell(int c, int v, int l, int beat) {
        int cell = (c + v * (beat - l)) % 20;
        return cell < 0 ? cell + 20 : cell;
    }
}
