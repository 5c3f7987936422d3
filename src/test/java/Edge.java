import java.util.ArrayList;
import java.util.Arrays;
import java.util.List;

/**
 * A sentence of the document, and calls that would answer otherwise if it were broken: texts like "walker 0 5 2 : 1",
 * made in turn on a new object. "pad A>." writes these signs, "days A>. : 2" writes and does them.
 * Whatever is refused, or only asks, is held to change nothing: a twin that did not make the call answers all alike.
 */
final class Edge {
    private static final int MOST_CALLS = 512;
    private static final List<String> CHANGING = Arrays.asList("arch", "gap", "walker", "leave", "say", "wipe", "done",
            "seen", "forget", "image", "restore", "pad", "days");
    private static final List<String> NAMES = Arrays.asList("NONE", "NO", "FULL", "STATE", "OUTSIDE", "UNKNOWN");

    private final Due due;

    Edge(String test) {
        this(new Due(test));
    }

    Edge(Due due) {
        this.due = due;
    }

    void end() {
        due.end();
    }

    void holds(String sentence, String... lines) {
        Run run = new Run();
        for (int i = 0; i < lines.length; i++) {
            String call = callOf(lines[i]);
            long got = run.make(call);
            String place = "\"" + sentence + "\", line " + (i + 1) + ": ";
            boolean isDue = true;
            if (lines[i].contains(" : ")) {
                long want = valueOf(lines[i].substring(lines[i].indexOf(" : ") + 3));
                isDue = got == want;
                due.is(place + call, got, want);
            }
            if (isDue && (isRefusal(got) || !CHANGING.contains(nameOf(call)))) {
                String[] ahead = Arrays.copyOf(lines, i);
                due.isTrue(place + call + " changes nothing", changesNothing(ahead, call));
            }
        }
        due.isTrue("\"" + sentence + "\" is looked at in " + MOST_CALLS + " calls", run.calls <= MOST_CALLS);
    }

    /** One line behind the same beginning each, so that they do not change one another's. */
    void holdsEach(String sentence, String[] beginning, String... lines) {
        for (String line : lines) {
            String[] all = Arrays.copyOf(beginning, beginning.length + 1);
            all[beginning.length] = line;
            holds(sentence, all);
        }
    }

    static String[] join(String[] beginning, String... lines) {
        List<String> all = new ArrayList<>(Arrays.asList(beginning));
        all.addAll(Arrays.asList(lines));
        return all.toArray(new String[0]);
    }

    private boolean changesNothing(String[] ahead, String call) {
        for (String look : new String[] {"", "restore 0", "restore 1"}) {
            Run without = after(ahead);
            Run with = after(ahead);
            with.make(call);
            if (!look.isEmpty()) {
                without.make(look);
                with.make(look);
            }
            if (!without.everything().equals(with.everything())) {
                return false;
            }
            due.isTrue(call + " is looked at in " + MOST_CALLS + " calls", with.calls <= MOST_CALLS);
        }
        return true;
    }

    private static Run after(String[] lines) {
        Run run = new Run();
        for (String line : lines) {
            run.make(callOf(line));
        }
        return run;
    }

    private static String callOf(String line) {
        int end = line.indexOf(" : ");
        return end < 0 ? line : line.substring(0, end);
    }

    private static String nameOf(String call) {
        int end = call.indexOf(' ');
        return end < 0 ? call : call.substring(0, end);
    }

    private static boolean isRefusal(long answer) {
        return answer < 0 && answer > WaterOthers.NONE || answer < WaterOthers.LOST;
    }

    /** A number, a refusal's name, or a set of numbers as bits: {0 19}. */
    private static long valueOf(String text) {
        if (text.startsWith("{")) {
            long bits = 0;
            for (String one : text.substring(1, text.length() - 1).trim().split(" +")) {
                bits |= one.isEmpty() ? 0 : 1L << Integer.parseInt(one);
            }
            return bits;
        }
        if (text.equals("LOST OUTSIDE")) {
            return -1000000000000000002L;
        }
        int name = NAMES.indexOf(text);
        return name >= 0 ? -6 + name : Long.parseLong(text);
    }

    private static final class Run {
        private final WaterOthers x = new WaterOthers();
        private int calls;

        long make(String call) {
            String name = nameOf(call);
            String rest = call.substring(Math.min(call.length(), name.length() + 1));
            if (name.equals("pad") || name.equals("days")) {
                calls += 1 + rest.length();
                Due.write(x, rest);
                return make(name.equals("pad") ? "told 0" : "done");
            }
            calls++;
            String[] words = rest.isEmpty() ? new String[0] : rest.split(" ");
            if (name.equals("arch")) {
                return x.arch(number(words[0]), words[1].equals("true"));
            }
            int[] n = new int[words.length];
            for (int i = 0; i < n.length; i++) {
                n[i] = number(words[i]);
            }
            return answer(name, n);
        }

        private static int number(String word) {
            if (word.startsWith("'")) {
                return word.charAt(1);
            }
            return word.equals("MIN") ? Integer.MIN_VALUE : word.equals("MAX") ? Integer.MAX_VALUE
                    : Integer.parseInt(word);
        }

        private long answer(String name, int[] n) {
            switch (name) {
                case "gap": return x.gap(n[0]);
                case "walker": return x.walker(n[0], n[1], n[2]);
                case "leave": return x.leave(n[0]);
                case "say": return x.say(n[0]);
                case "wipe": return x.wipe();
                case "fault": return x.fault();
                case "judge": return x.judge(n[0]);
                case "done": return x.done();
                case "behind": return x.behind(n[0], n[1]);
                case "then": return x.then(n[0]);
                case "standing": return x.standing(n[0], n[1]);
                case "trip": return x.trip(n[0], n[1], n[2]);
                case "again": return x.again(n[0], n[1]);
                case "order": return x.order(n[0], n[1], n[2]);
                case "seen": return x.seen(n[0], n[1]);
                case "forget": return x.forget();
                case "fits": return x.fits(n[0]);
                case "ask": return x.ask(n[0]);
                case "lengths": return x.lengths(n[0], n[1], n[2]);
                case "calm": return x.calm(n[0], n[1], n[2], n[3], n[4]);
                case "year": return x.year(n[0], n[1], n[2]);
                case "image": return x.image(n[0]);
                case "restore": return x.restore(n[0]);
                case "told": return x.told(n[0]);
                default: throw new IllegalArgumentException(name);
            }
        }

        /** What all calls answer that tell of the state; the last two change it. */
        String everything() {
            List<Long> all = new ArrayList<>();
            for (int what = 0; what < 70; what++) {
                add(all, "told", what);
            }
            for (int cell = 0; cell < 20; cell++) {
                add(all, "standing", cell, 0);
                add(all, "standing", cell, 1);
            }
            for (int what = 0; what < 5; what++) {
                add(all, "then", what);
            }
            for (int who = 0; who < 6; who++) {
                for (int what = 0; what < 3; what++) {
                    add(all, "behind", who, what);
                }
                add(all, "trip", who, 0, 0);
                add(all, "trip", who, 19, 0);
                add(all, "trip", who, 19, 1);
                add(all, "again", who, 0);
                add(all, "again", who, 1);
            }
            for (int i = -1; i < 12; i++) {
                add(all, "fits", i);
            }
            for (int what = 0; what < 2; what++) {
                add(all, "judge", what);
                add(all, "ask", what);
                add(all, "year", 77, 40, what);
                add(all, "year", 4321, 99, what);
            }
            add(all, "fault");
            add(all, "done");
            add(all, "wipe");
            return all.toString();
        }

        private void add(List<Long> all, String name, int... n) {
            calls++;
            all.add(answer(name, n));
        }
    }
}
