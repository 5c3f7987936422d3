import java.io.IOException;
import java.lang.reflect.Method;
import java.lang.reflect.Modifier;
import java.nio.file.DirectoryStream;
import java.nio.file.Files;
import java.nio.file.Path;
import java.util.ArrayList;
import java.util.List;
import java.util.regex.Matcher;
import java.util.regex.Pattern;

/** README.md: each example answers as it says, and no call, refusal or test is left out. */
public final class ReadmeTest {
    private static final Due DUE = new Due("ReadmeTest");
    private static final Edge EDGE = new Edge(DUE);
    private static final String MAKING = "WaterOthers path = new WaterOthers();";
    private static final Pattern CALL =
            Pattern.compile("path\\.(\\w+)\\((.*)\\); +// (LOST \\+ OUTSIDE|[A-Z]+|-?\\d+)(: .*)?");
    private static final Pattern SIGN = Pattern.compile("'(.)'");

    public static void main(String[] args) throws IOException, ReflectiveOperationException {
        List<String> page = Files.readAllLines(Path.of("README.md"));
        DUE.isTrue("an example for each part, and for refusals: 5", examples(page) == 5);
        calls(page);
        refusals(page);
        tests(page);
        DUE.end();
    }

    /** How many there are; each is made on a new object. */
    private static int examples(List<String> page) {
        int count = 0;
        List<String> calls = null;
        for (String line : page) {
            if (line.equals("```java")) {
                calls = new ArrayList<>();
                count++;
            } else if (calls != null && line.startsWith("```")) {
                EDGE.holds("example " + count, calls.toArray(new String[0]));
                DUE.isTrue("example " + count + " shows calls", !calls.isEmpty());
                calls = null;
            } else if (calls != null && !(line.equals(MAKING) && calls.isEmpty())) {
                Matcher call = CALL.matcher(line);
                boolean isCall = call.matches();
                DUE.isTrue("\"" + line + "\" is a call with its answer", isCall);
                if (isCall) {
                    calls.add(edgeLine(call));
                }
            }
        }
        DUE.isTrue("every example ends", calls == null);
        return count;
    }

    private static String edgeLine(Matcher call) {
        String words = SIGN.matcher(call.group(2)).replaceAll(sign -> "" + (int) sign.group(1).charAt(0));
        String line = call.group(1) + " " + words.replace(", ", " ");
        return line.trim() + " : " + call.group(3).replace(" + ", " ");
    }

    /** Each call has a row, with as many parameters as it takes. */
    private static void calls(List<String> page) {
        for (Method method : WaterOthers.class.getDeclaredMethods()) {
            if (Modifier.isPublic(method.getModifiers())) {
                String row = rowOf(page, "| `" + method.getName() + "(");
                int open = row.indexOf('(');
                int close = row.indexOf(')');
                boolean isWhole = open >= 0 && close > open && row.split("\\|").length == 4;
                DUE.isTrue(method.getName() + " has a row that says what it is for", isWhole);
                if (isWhole) {
                    String names = row.substring(open + 1, close);
                    int count = names.isEmpty() ? 0 : names.split(", ").length;
                    DUE.is("parameters of " + method.getName(), count, method.getParameterCount());
                }
            }
        }
    }

    /** In the order in which they are tried. */
    private static void refusals(List<String> page) throws ReflectiveOperationException {
        int last = 0;
        for (String name : new String[] {"UNKNOWN", "OUTSIDE", "NO", "STATE", "FULL"}) {
            int number = WaterOthers.class.getField(name).getInt(null);
            String row = rowOf(page, "| `" + name + "` | " + number + " | ");
            DUE.isTrue(name + " has its row, in its place", page.indexOf(row) > last);
            last = page.indexOf(row);
        }
        String all = String.join("\n", page);
        DUE.isTrue("NONE's number", all.contains("`NONE` (" + WaterOthers.NONE + ")"));
        DUE.isTrue("LOST's number", all.contains("`LOST` (" + WaterOthers.LOST + ")"));
    }

    private static void tests(List<String> page) throws IOException {
        try (DirectoryStream<Path> files = Files.newDirectoryStream(Path.of("src/test/java"), "*.java")) {
            for (Path file : files) {
                String name = file.getFileName().toString();
                if (Files.readString(file).contains("static void main(")) {
                    String row = rowOf(page, "| " + name.substring(0, name.length() - 5) + " | ");
                    DUE.isTrue(name + " has a row", !row.isEmpty());
                } else {
                    DUE.isTrue(name + " is told of", String.join("\n", page).contains("`" + name + "`"));
                }
            }
        }
    }

    private static String rowOf(List<String> page, String beginning) {
        for (String line : page) {
            if (line.startsWith(beginning)) {
                return line;
            }
        }
        return "";
    }
}
